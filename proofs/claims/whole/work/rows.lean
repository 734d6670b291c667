section
-- ===== PART A: goes FIRST, ahead of the names: the tables' words, and 'selects' of the private methods out of them =====
/-- a private method of a class that the tables say can be made, by its rows of tables_1 -/
def lw_okq (q : MethodName × Nat) : Prop := (q.1.cls ≠ "java/lang/invoke/MethodHandle" ∧ q.1.cls ≠ "java/lang/invoke/VarHandle") ∧ Cond.instantiable q.1.cls q.2 ∈ tables_1 ∧ Cond.privateMethod q.1 ∈ tables_1 ∧ Cond.instanceMethod q.1 ∈ tables_1
theorem lw_p0 : lw_okq (⟨"LinkEstablisher", "countInvalid", "()I"⟩, 6) := ⟨⟨by decide +kernel, by decide +kernel⟩, List.mem_of_getElem? (i := 9) (by decide +kernel), List.mem_of_getElem? (i := 117) (by decide +kernel), List.mem_of_getElem? (i := 118) (by decide +kernel)⟩
theorem lw_p1 : lw_okq (⟨"LinkEstablisher", "saveState", "()V"⟩, 6) := ⟨⟨by decide +kernel, by decide +kernel⟩, List.mem_of_getElem? (i := 9) (by decide +kernel), List.mem_of_getElem? (i := 121) (by decide +kernel), List.mem_of_getElem? (i := 122) (by decide +kernel)⟩
theorem lw_p2 : lw_okq (⟨"LinkEstablisher", "countRejected", "()I"⟩, 6) := ⟨⟨by decide +kernel, by decide +kernel⟩, List.mem_of_getElem? (i := 9) (by decide +kernel), List.mem_of_getElem? (i := 171) (by decide +kernel), List.mem_of_getElem? (i := 172) (by decide +kernel)⟩
theorem lw_p3 : lw_okq (⟨"LinkEstablisherModel", "fail", "(I)I"⟩, 7) := ⟨⟨by decide +kernel, by decide +kernel⟩, List.mem_of_getElem? (i := 396) (by decide +kernel), List.mem_of_getElem? (i := 428) (by decide +kernel), List.mem_of_getElem? (i := 429) (by decide +kernel)⟩
theorem lw_p4 : lw_okq (⟨"LinkEstablisherModel", "note", "()V"⟩, 7) := ⟨⟨by decide +kernel, by decide +kernel⟩, List.mem_of_getElem? (i := 396) (by decide +kernel), List.mem_of_getElem? (i := 442) (by decide +kernel), List.mem_of_getElem? (i := 443) (by decide +kernel)⟩
theorem lw_p5 : lw_okq (⟨"LinkEstablisherModel", "isLinked", "(I)Z"⟩, 7) := ⟨⟨by decide +kernel, by decide +kernel⟩, List.mem_of_getElem? (i := 396) (by decide +kernel), List.mem_of_getElem? (i := 475) (by decide +kernel), List.mem_of_getElem? (i := 476) (by decide +kernel)⟩
theorem lw_p6 : lw_okq (⟨"LinkEstablisherModel", "mostOf", "(I)I"⟩, 7) := ⟨⟨by decide +kernel, by decide +kernel⟩, List.mem_of_getElem? (i := 396) (by decide +kernel), List.mem_of_getElem? (i := 479) (by decide +kernel), List.mem_of_getElem? (i := 480) (by decide +kernel)⟩
theorem lw_p7 : lw_okq (⟨"LinkEstablisherModel", "listens", "(II)I"⟩, 7) := ⟨⟨by decide +kernel, by decide +kernel⟩, List.mem_of_getElem? (i := 396) (by decide +kernel), List.mem_of_getElem? (i := 489) (by decide +kernel), List.mem_of_getElem? (i := 490) (by decide +kernel)⟩
theorem lw_p8 : lw_okq (⟨"LinkEstablisherModel", "transmit", "(IIIII)Z"⟩, 7) := ⟨⟨by decide +kernel, by decide +kernel⟩, List.mem_of_getElem? (i := 396) (by decide +kernel), List.mem_of_getElem? (i := 493) (by decide +kernel), List.mem_of_getElem? (i := 494) (by decide +kernel)⟩
theorem lw_p9 : lw_okq (⟨"LinkEstablisherModel", "copyOf", "(II)I"⟩, 7) := ⟨⟨by decide +kernel, by decide +kernel⟩, List.mem_of_getElem? (i := 396) (by decide +kernel), List.mem_of_getElem? (i := 498) (by decide +kernel), List.mem_of_getElem? (i := 499) (by decide +kernel)⟩
theorem lw_p10 : lw_okq (⟨"LinkEstablisherModel", "draw", "()I"⟩, 7) := ⟨⟨by decide +kernel, by decide +kernel⟩, List.mem_of_getElem? (i := 396) (by decide +kernel), List.mem_of_getElem? (i := 502) (by decide +kernel), List.mem_of_getElem? (i := 503) (by decide +kernel)⟩
theorem lw_p11 : lw_okq (⟨"LinkEstablisherModel", "sortChannels", "(II)I"⟩, 7) := ⟨⟨by decide +kernel, by decide +kernel⟩, List.mem_of_getElem? (i := 396) (by decide +kernel), List.mem_of_getElem? (i := 516) (by decide +kernel), List.mem_of_getElem? (i := 517) (by decide +kernel)⟩
theorem lw_p12 : lw_okq (⟨"LinkEstablisherModel", "effectiveOf", "(III)I"⟩, 7) := ⟨⟨by decide +kernel, by decide +kernel⟩, List.mem_of_getElem? (i := 396) (by decide +kernel), List.mem_of_getElem? (i := 520) (by decide +kernel), List.mem_of_getElem? (i := 521) (by decide +kernel)⟩
theorem lw_p13 : lw_okq (⟨"LinkEstablisherModel", "attempt", "(III)Z"⟩, 7) := ⟨⟨by decide +kernel, by decide +kernel⟩, List.mem_of_getElem? (i := 396) (by decide +kernel), List.mem_of_getElem? (i := 524) (by decide +kernel), List.mem_of_getElem? (i := 525) (by decide +kernel)⟩
theorem lw_p14 : lw_okq (⟨"LinkEstablisherModel", "join", "(II)V"⟩, 7) := ⟨⟨by decide +kernel, by decide +kernel⟩, List.mem_of_getElem? (i := 396) (by decide +kernel), List.mem_of_getElem? (i := 528) (by decide +kernel), List.mem_of_getElem? (i := 529) (by decide +kernel)⟩
theorem lw_p15 : lw_okq (⟨"LinkEstablisherModel", "netChannelOf", "(II)I"⟩, 7) := ⟨⟨by decide +kernel, by decide +kernel⟩, List.mem_of_getElem? (i := 396) (by decide +kernel), List.mem_of_getElem? (i := 539) (by decide +kernel), List.mem_of_getElem? (i := 540) (by decide +kernel)⟩
def lw_privs_1 : List (MethodName × Nat) := [(⟨"LinkEstablisher", "countInvalid", "()I"⟩, 6), (⟨"LinkEstablisher", "saveState", "()V"⟩, 6), (⟨"LinkEstablisher", "countRejected", "()I"⟩, 6), (⟨"LinkEstablisherModel", "fail", "(I)I"⟩, 7), (⟨"LinkEstablisherModel", "note", "()V"⟩, 7), (⟨"LinkEstablisherModel", "isLinked", "(I)Z"⟩, 7), (⟨"LinkEstablisherModel", "mostOf", "(I)I"⟩, 7), (⟨"LinkEstablisherModel", "listens", "(II)I"⟩, 7), (⟨"LinkEstablisherModel", "transmit", "(IIIII)Z"⟩, 7), (⟨"LinkEstablisherModel", "copyOf", "(II)I"⟩, 7), (⟨"LinkEstablisherModel", "draw", "()I"⟩, 7), (⟨"LinkEstablisherModel", "sortChannels", "(II)I"⟩, 7), (⟨"LinkEstablisherModel", "effectiveOf", "(III)I"⟩, 7), (⟨"LinkEstablisherModel", "attempt", "(III)Z"⟩, 7), (⟨"LinkEstablisherModel", "join", "(II)V"⟩, 7), (⟨"LinkEstablisherModel", "netChannelOf", "(II)I"⟩, 7)]
theorem lw_r1 : ∀ q ∈ lw_privs_1, lw_okq q := List.forall_mem_cons.mpr ⟨lw_p0, List.forall_mem_cons.mpr ⟨lw_p1, List.forall_mem_cons.mpr ⟨lw_p2, List.forall_mem_cons.mpr ⟨lw_p3, List.forall_mem_cons.mpr ⟨lw_p4, List.forall_mem_cons.mpr ⟨lw_p5, List.forall_mem_cons.mpr ⟨lw_p6, List.forall_mem_cons.mpr ⟨lw_p7, List.forall_mem_cons.mpr ⟨lw_p8, List.forall_mem_cons.mpr ⟨lw_p9, List.forall_mem_cons.mpr ⟨lw_p10, List.forall_mem_cons.mpr ⟨lw_p11, List.forall_mem_cons.mpr ⟨lw_p12, List.forall_mem_cons.mpr ⟨lw_p13, List.forall_mem_cons.mpr ⟨lw_p14, List.forall_mem_cons.mpr ⟨lw_p15, fun _ h => absurd h List.not_mem_nil⟩⟩⟩⟩⟩⟩⟩⟩⟩⟩⟩⟩⟩⟩⟩⟩
theorem lw_p16 : lw_okq (⟨"LinkEstablisherModel", "netScore", "(III)I"⟩, 7) := ⟨⟨by decide +kernel, by decide +kernel⟩, List.mem_of_getElem? (i := 396) (by decide +kernel), List.mem_of_getElem? (i := 543) (by decide +kernel), List.mem_of_getElem? (i := 544) (by decide +kernel)⟩
theorem lw_p17 : lw_okq (⟨"LinkEstablisherModel", "answers", "(III)Z"⟩, 7) := ⟨⟨by decide +kernel, by decide +kernel⟩, List.mem_of_getElem? (i := 396) (by decide +kernel), List.mem_of_getElem? (i := 547) (by decide +kernel), List.mem_of_getElem? (i := 548) (by decide +kernel)⟩
theorem lw_p18 : lw_okq (⟨"LinkEstablisherModel", "leave", "(I)V"⟩, 7) := ⟨⟨by decide +kernel, by decide +kernel⟩, List.mem_of_getElem? (i := 396) (by decide +kernel), List.mem_of_getElem? (i := 555) (by decide +kernel), List.mem_of_getElem? (i := 556) (by decide +kernel)⟩
theorem lw_p19 : lw_okq (⟨"LinkEstablisherModel", "add", "(I)V"⟩, 7) := ⟨⟨by decide +kernel, by decide +kernel⟩, List.mem_of_getElem? (i := 396) (by decide +kernel), List.mem_of_getElem? (i := 643) (by decide +kernel), List.mem_of_getElem? (i := 644) (by decide +kernel)⟩
def lw_privs_2 : List (MethodName × Nat) := [(⟨"LinkEstablisherModel", "netScore", "(III)I"⟩, 7), (⟨"LinkEstablisherModel", "answers", "(III)Z"⟩, 7), (⟨"LinkEstablisherModel", "leave", "(I)V"⟩, 7), (⟨"LinkEstablisherModel", "add", "(I)V"⟩, 7)]
theorem lw_r2 : ∀ q ∈ lw_privs_2, lw_okq q := List.forall_mem_cons.mpr ⟨lw_p16, List.forall_mem_cons.mpr ⟨lw_p17, List.forall_mem_cons.mpr ⟨lw_p18, List.forall_mem_cons.mpr ⟨lw_p19, fun _ h => absurd h List.not_mem_nil⟩⟩⟩⟩
def lw_privs : List (MethodName × Nat) := lw_privs_1 ++ (lw_privs_2)
def lw_tbl : List Cond := k2_sels lw_privs ++ tables_1
theorem lw_privs_ok : ∀ q ∈ lw_privs, lw_okq q := by
  show ∀ q ∈ lw_privs_1 ++ (lw_privs_2), lw_okq q
  exact List.forall_mem_append.mpr ⟨lw_r1, lw_r2⟩
-- ===== end of PART A; then your names; then what follows =====
end
section
/-! ===== BEGIN words of one list among another's, by their places ===== -/
theorem goodIn_r {big : List Cond} (ws : List Cond) (ps : List Nat) (hp : ws = ps.filterMap (fun i => big[i]?)) (h : ws.all goodWord = true) : GoodIn big ws := by
  intro w hw
  have h1 := List.all_eq_true.mp h w hw
  rw [hp] at hw
  obtain ⟨i, -, hi⟩ := List.mem_filterMap.mp hw
  have hm : w ∈ big := by first | exact List.mem_of_getElem? hi | exact List.getElem?_mem hi
  exact ⟨hm, good_of_word h1⟩
theorem goodIn_app {big a b : List Cond} (ha : GoodIn big a) (hb : GoodIn big b) : GoodIn big (a ++ b) := fun w h => (List.mem_append.mp h).elim (ha w) (hb w)
theorem goodIn_ca {big a b : List Cond} {c : Cond} (ha : GoodIn big (c :: a)) (hb : GoodIn big b) : GoodIn big (c :: (a ++ b)) := fun w h => (List.mem_cons.mp h).elim (fun e => ha w (List.mem_cons.mpr (Or.inl e))) (fun h => (List.mem_append.mp h).elim (fun h => ha w (List.mem_cons.mpr (Or.inr h))) (hb w))
theorem goodIn_sub {big ws : List Cond} (hm : ∀ w ∈ ws, w ∈ big) (h : ws.all goodWord = true) : GoodIn big ws := fun w hw => ⟨hm w hw, good_of_word (List.all_eq_true.mp h w hw)⟩
/-! ===== END ===== -/

/-! ===== BEGIN printed: names, fields, word lists, decode rows ===== -/
def RX0 : String := "LinkEstablisher$Network"
def TX0 : u_T := fun k => match k with
  | 0 => ("LinkEstablisher$Network", "now", "I", false)
  | 1 => ("LinkEstablisher$Network", "ageing", "I", false)
  | 2 => ("LinkEstablisher$Network", "noise", "I", false)
  | 3 => ("LinkEstablisher$Network", "wordsSent", "I", false)
  | 4 => ("LinkEstablisher$Network", "wordsDecoded", "I", false)
  | 5 => ("LinkEstablisher$Network", "callAttempts", "I", false)
  | 6 => ("LinkEstablisher$Network", "callChannel", "I", false)
  | 7 => ("LinkEstablisher$Network", "wordUnanimous", "I", false)
  | 8 => ("LinkEstablisher$Network", "wordVoted", "I", false)
  | 9 => ("LinkEstablisher$Network", "scanSets", "[I", true)
  | 10 => ("LinkEstablisher$Network", "linkSets", "[I", true)
  | 11 => ("LinkEstablisher$Network", "linkChannels", "[I", true)
  | 12 => ("LinkEstablisher$Network", "qualities", "[I", true)
  | 13 => ("LinkEstablisher$Network", "scores", "[I", true)
  | 14 => ("LinkEstablisher$Network", "scoreTimes", "[I", true)
  | _ => ("LinkEstablisher$Network", "channelRanks", "[I", true)
def tyX0 : Nat → FieldType := fun k => match k with
  | 0 => .int
  | 1 => .int
  | 2 => .int
  | 3 => .int
  | 4 => .int
  | 5 => .int
  | 6 => .int
  | 7 => .int
  | 8 => .int
  | 9 => .array .int
  | 10 => .array .int
  | 11 => .array .int
  | 12 => .array .int
  | 13 => .array .int
  | 14 => .array .int
  | _ => .array .int
abbrev wsX00 : List Cond := u_ws RX0 TX0 16
theorem nmX0 : ∀ a, a < 16 → ∀ b, b < 16 → a ≠ b → (TX0 a).2.1 ≠ (TX0 b).2.1 := by decide +kernel
theorem tyX0_ok : ∀ k, k < 16 → parseFieldDescriptor (TX0 k).2.2.1 = some (tyX0 k) := by decide +kernel
abbrev cX0_init : ByteArray := prog_2_method_1_code
def yX0_init : MethodName := ⟨RX0, "<init>", "()V"⟩
abbrev cX0_copyFrom : ByteArray := prog_2_method_2_code
def yX0_copyFrom : MethodName := ⟨RX0, "copyFrom", "(LLinkEstablisher$Network;)V"⟩
abbrev cX0_isLinked : ByteArray := prog_2_method_3_code
def yX0_isLinked : MethodName := ⟨RX0, "isLinked", "(I)Z"⟩
abbrev cX0_scannedChannel : ByteArray := prog_2_method_4_code
def yX0_scannedChannel : MethodName := ⟨RX0, "scannedChannel", "(I)I"⟩
abbrev cX0_hears : ByteArray := prog_2_method_5_code
def yX0_hears : MethodName := ⟨RX0, "hears", "(II)Z"⟩
abbrev cX0_longestScan : ByteArray := prog_2_method_6_code
def yX0_longestScan : MethodName := ⟨RX0, "longestScan", "(I)I"⟩
abbrev cX0_drawNoise : ByteArray := prog_2_method_7_code
def yX0_drawNoise : MethodName := ⟨RX0, "drawNoise", "()I"⟩
abbrev cX0_receiveCopy : ByteArray := prog_2_method_8_code
def yX0_receiveCopy : MethodName := ⟨RX0, "receiveCopy", "(II)I"⟩
abbrev cX0_transmit : ByteArray := prog_2_method_9_code
def yX0_transmit : MethodName := ⟨RX0, "transmit", "(IIIII)Z"⟩
abbrev cX0_agedScore : ByteArray := prog_2_method_10_code
def yX0_agedScore : MethodName := ⟨RX0, "agedScore", "(III)I"⟩
abbrev cX0_netScore : ByteArray := prog_2_method_11_code
def yX0_netScore : MethodName := ⟨RX0, "netScore", "(III)I"⟩
abbrev cX0_rankChannels : ByteArray := prog_2_method_12_code
def yX0_rankChannels : MethodName := ⟨RX0, "rankChannels", "(II)V"⟩
abbrev cX0_firstRanked : ByteArray := prog_2_method_13_code
def yX0_firstRanked : MethodName := ⟨RX0, "firstRanked", "(I)I"⟩
abbrev cX0_preferredChannel : ByteArray := prog_2_method_14_code
def yX0_preferredChannel : MethodName := ⟨RX0, "preferredChannel", "(II)I"⟩
abbrev cX0_emitSounding : ByteArray := prog_2_method_15_code
def yX0_emitSounding : MethodName := ⟨RX0, "emitSounding", "(II)I"⟩
abbrev cX0_callOne : ByteArray := prog_2_method_16_code
def yX0_callOne : MethodName := ⟨RX0, "callOne", "(II)I"⟩
abbrev cX0_shakeHands : ByteArray := prog_2_method_17_code
def yX0_shakeHands : MethodName := ⟨RX0, "shakeHands", "(III)Z"⟩
abbrev cX0_callMany : ByteArray := prog_2_method_18_code
def yX0_callMany : MethodName := ⟨RX0, "callMany", "(II)I"⟩
abbrev cX0_answersNetCall : ByteArray := prog_2_method_19_code
def yX0_answersNetCall : MethodName := ⟨RX0, "answersNetCall", "(III)Z"⟩
abbrev cX0_joinLink : ByteArray := prog_2_method_20_code
def yX0_joinLink : MethodName := ⟨RX0, "joinLink", "(II)V"⟩
abbrev cX0_dropLink : ByteArray := prog_2_method_21_code
def yX0_dropLink : MethodName := ⟨RX0, "dropLink", "(I)V"⟩
abbrev cX0_leaveLink : ByteArray := prog_2_method_22_code
def yX0_leaveLink : MethodName := ⟨RX0, "leaveLink", "(I)I"⟩
abbrev cX0_mixCounters : ByteArray := prog_2_method_23_code
def yX0_mixCounters : MethodName := ⟨RX0, "mixCounters", "(J)J"⟩
abbrev cX0_mixStations : ByteArray := prog_2_method_24_code
def yX0_mixStations : MethodName := ⟨RX0, "mixStations", "(J)J"⟩
abbrev cX0_mixScores : ByteArray := prog_2_method_25_code
def yX0_mixScores : MethodName := ⟨RX0, "mixScores", "(J)J"⟩
def RX1 : String := "LinkEstablisher"
def TX1 : u_T := fun k => match k with
  | 0 => ("LinkEstablisher", "network", "LLinkEstablisher$Network;", true)
  | 1 => ("LinkEstablisher", "savedStates", "[LLinkEstablisher$Network;", true)
  | 2 => ("LinkEstablisher", "nextSaved", "I", false)
  | 3 => ("LinkEstablisher", "savedCount", "I", false)
  | 4 => ("LinkEstablisher", "invalidCalls", "I", false)
  | _ => ("LinkEstablisher", "rejectedCalls", "I", false)
def tyX1 : Nat → FieldType := fun k => match k with
  | 0 => .object "LinkEstablisher$Network"
  | 1 => .array (.object "LinkEstablisher$Network")
  | 2 => .int
  | 3 => .int
  | 4 => .int
  | _ => .int
abbrev wsX10 : List Cond := u_ws RX1 TX1 6
theorem nmX1 : ∀ a, a < 6 → ∀ b, b < 6 → a ≠ b → (TX1 a).2.1 ≠ (TX1 b).2.1 := by decide +kernel
theorem tyX1_ok : ∀ k, k < 6 → parseFieldDescriptor (TX1 k).2.2.1 = some (tyX1 k) := by decide +kernel
abbrev cX1_init : ByteArray := prog_1_method_1_code
def yX1_init : MethodName := ⟨RX1, "<init>", "()V"⟩
abbrev cX1_setScan : ByteArray := prog_1_method_2_code
def yX1_setScan : MethodName := ⟨RX1, "setScan", "(II)I"⟩
abbrev cX1_setQuality : ByteArray := prog_1_method_3_code
def yX1_setQuality : MethodName := ⟨RX1, "setQuality", "(IIII)I"⟩
abbrev cX1_setAgeing : ByteArray := prog_1_method_4_code
def yX1_setAgeing : MethodName := ⟨RX1, "setAgeing", "(I)I"⟩
abbrev cX1_setNoise : ByteArray := prog_1_method_5_code
def yX1_setNoise : MethodName := ⟨RX1, "setNoise", "(I)I"⟩
abbrev cX1_pass : ByteArray := prog_1_method_6_code
def yX1_pass : MethodName := ⟨RX1, "pass", "(I)I"⟩
abbrev cX1_sound : ByteArray := prog_1_method_7_code
def yX1_sound : MethodName := ⟨RX1, "sound", "(II)I"⟩
abbrev cX1_call : ByteArray := prog_1_method_8_code
def yX1_call : MethodName := ⟨RX1, "call", "(II)I"⟩
abbrev cX1_netCall : ByteArray := prog_1_method_9_code
def yX1_netCall : MethodName := ⟨RX1, "netCall", "(II)I"⟩
abbrev cX1_hangUp : ByteArray := prog_1_method_10_code
def yX1_hangUp : MethodName := ⟨RX1, "hangUp", "(I)I"⟩
abbrev cX1_attempts : ByteArray := prog_1_method_11_code
def yX1_attempts : MethodName := ⟨RX1, "attempts", "()I"⟩
abbrev cX1_lastChannel : ByteArray := prog_1_method_12_code
def yX1_lastChannel : MethodName := ⟨RX1, "lastChannel", "()I"⟩
abbrev cX1_lastUnanimous : ByteArray := prog_1_method_13_code
def yX1_lastUnanimous : MethodName := ⟨RX1, "lastUnanimous", "()I"⟩
abbrev cX1_lastVoted : ByteArray := prog_1_method_14_code
def yX1_lastVoted : MethodName := ⟨RX1, "lastVoted", "()I"⟩
abbrev cX1_scan : ByteArray := prog_1_method_15_code
def yX1_scan : MethodName := ⟨RX1, "scan", "(I)I"⟩
abbrev cX1_listening : ByteArray := prog_1_method_16_code
def yX1_listening : MethodName := ⟨RX1, "listening", "(I)I"⟩
abbrev cX1_quality : ByteArray := prog_1_method_17_code
def yX1_quality : MethodName := ⟨RX1, "quality", "(III)I"⟩
abbrev cX1_score : ByteArray := prog_1_method_18_code
def yX1_score : MethodName := ⟨RX1, "score", "(III)I"⟩
abbrev cX1_effective : ByteArray := prog_1_method_19_code
def yX1_effective : MethodName := ⟨RX1, "effective", "(III)I"⟩
abbrev cX1_bestChannel : ByteArray := prog_1_method_20_code
def yX1_bestChannel : MethodName := ⟨RX1, "bestChannel", "(II)I"⟩
abbrev cX1_netChannel : ByteArray := prog_1_method_21_code
def yX1_netChannel : MethodName := ⟨RX1, "netChannel", "(II)I"⟩
abbrev cX1_link : ByteArray := prog_1_method_22_code
def yX1_link : MethodName := ⟨RX1, "link", "(I)I"⟩
abbrev cX1_linkChannel : ByteArray := prog_1_method_23_code
def yX1_linkChannel : MethodName := ⟨RX1, "linkChannel", "(I)I"⟩
abbrev cX1_time : ByteArray := prog_1_method_24_code
def yX1_time : MethodName := ⟨RX1, "time", "()I"⟩
abbrev cX1_transmitted : ByteArray := prog_1_method_25_code
def yX1_transmitted : MethodName := ⟨RX1, "transmitted", "()I"⟩
abbrev cX1_decoded : ByteArray := prog_1_method_26_code
def yX1_decoded : MethodName := ⟨RX1, "decoded", "()I"⟩
abbrev cX1_vote : ByteArray := prog_1_method_27_code
def yX1_vote : MethodName := ⟨RX1, "vote", "(III)I"⟩
abbrev cX1_undo : ByteArray := prog_1_method_28_code
def yX1_undo : MethodName := ⟨RX1, "undo", "()I"⟩
abbrev cX1_errorCount : ByteArray := prog_1_method_29_code
def yX1_errorCount : MethodName := ⟨RX1, "errorCount", "(I)I"⟩
abbrev cX1_digest : ByteArray := prog_1_method_30_code
def yX1_digest : MethodName := ⟨RX1, "digest", "()J"⟩
abbrev cX1_countInvalid : ByteArray := prog_1_method_31_code
def yX1_countInvalid : MethodName := ⟨RX1, "countInvalid", "()I"⟩
abbrev cX1_countRejected : ByteArray := prog_1_method_32_code
def yX1_countRejected : MethodName := ⟨RX1, "countRejected", "()I"⟩
abbrev cX1_saveState : ByteArray := prog_1_method_33_code
def yX1_saveState : MethodName := ⟨RX1, "saveState", "()V"⟩
abbrev cX1_isStation : ByteArray := prog_1_method_34_code
def yX1_isStation : MethodName := ⟨RX1, "isStation", "(I)Z"⟩
abbrev cX1_isChannel : ByteArray := prog_1_method_35_code
def yX1_isChannel : MethodName := ⟨RX1, "isChannel", "(I)Z"⟩
abbrev cX1_isWord : ByteArray := prog_1_method_36_code
def yX1_isWord : MethodName := ⟨RX1, "isWord", "(I)Z"⟩
abbrev cX1_isPair : ByteArray := prog_1_method_37_code
def yX1_isPair : MethodName := ⟨RX1, "isPair", "(II)Z"⟩
abbrev cX1_isCell : ByteArray := prog_1_method_38_code
def yX1_isCell : MethodName := ⟨RX1, "isCell", "(III)Z"⟩
abbrev cX1_isNet : ByteArray := prog_1_method_39_code
def yX1_isNet : MethodName := ⟨RX1, "isNet", "(II)Z"⟩
abbrev cX1_contains : ByteArray := prog_1_method_40_code
def yX1_contains : MethodName := ⟨RX1, "contains", "(II)Z"⟩
abbrev cX1_cell : ByteArray := prog_1_method_41_code
def yX1_cell : MethodName := ⟨RX1, "cell", "(III)I"⟩
abbrev cX1_majority : ByteArray := prog_1_method_42_code
def yX1_majority : MethodName := ⟨RX1, "majority", "(III)I"⟩
abbrev cX1_mix : ByteArray := prog_1_method_43_code
def yX1_mix : MethodName := ⟨RX1, "mix", "(JJ)J"⟩
def RX2 : String := "LinkEstablisherModel"
def TX2 : u_T := fun k => match k with
  | 0 => ("LinkEstablisherModel", "s", "[I", true)
  | 1 => ("LinkEstablisherModel", "past", "[I", true)
  | 2 => ("LinkEstablisherModel", "pasts", "I", false)
  | 3 => ("LinkEstablisherModel", "errors", "[I", true)
  | 4 => ("LinkEstablisherModel", "order", "[I", true)
  | 5 => ("LinkEstablisherModel", "rank", "[I", true)
  | _ => ("LinkEstablisherModel", "hash", "J", false)
def tyX2 : Nat → FieldType := fun k => match k with
  | 0 => .array .int
  | 1 => .array .int
  | 2 => .int
  | 3 => .array .int
  | 4 => .array .int
  | 5 => .array .int
  | _ => .long
abbrev wsX20 : List Cond := u_ws RX2 TX2 7
theorem nmX2 : ∀ a, a < 7 → ∀ b, b < 7 → a ≠ b → (TX2 a).2.1 ≠ (TX2 b).2.1 := by decide +kernel
theorem tyX2_ok : ∀ k, k < 7 → parseFieldDescriptor (TX2 k).2.2.1 = some (tyX2 k) := by decide +kernel
abbrev cX2_init : ByteArray := prog_4_method_1_code
def yX2_init : MethodName := ⟨RX2, "<init>", "()V"⟩
abbrev cX2_in : ByteArray := prog_4_method_3_code
def yX2_in : MethodName := ⟨RX2, "in", "(III)Z"⟩
abbrev cX2_has : ByteArray := prog_4_method_4_code
def yX2_has : MethodName := ⟨RX2, "has", "(II)Z"⟩
abbrev cX2_fail : ByteArray := prog_4_method_5_code
def yX2_fail : MethodName := ⟨RX2, "fail", "(I)I"⟩
abbrev cX2_note : ByteArray := prog_4_method_6_code
def yX2_note : MethodName := ⟨RX2, "note", "()V"⟩
abbrev cX2_undo : ByteArray := prog_4_method_7_code
def yX2_undo : MethodName := ⟨RX2, "undo", "()I"⟩
abbrev cX2_isStation : ByteArray := prog_4_method_8_code
def yX2_isStation : MethodName := ⟨RX2, "isStation", "(I)Z"⟩
abbrev cX2_isChannel : ByteArray := prog_4_method_9_code
def yX2_isChannel : MethodName := ⟨RX2, "isChannel", "(I)Z"⟩
abbrev cX2_arePair : ByteArray := prog_4_method_10_code
def yX2_arePair : MethodName := ⟨RX2, "arePair", "(II)Z"⟩
abbrev cX2_at : ByteArray := prog_4_method_11_code
def yX2_at : MethodName := ⟨RX2, "at", "(III)I"⟩
abbrev cX2_isLinked : ByteArray := prog_4_method_12_code
def yX2_isLinked : MethodName := ⟨RX2, "isLinked", "(I)Z"⟩
abbrev cX2_count : ByteArray := prog_4_method_13_code
def yX2_count : MethodName := ⟨RX2, "count", "(I)I"⟩
abbrev cX2_setScan : ByteArray := prog_4_method_14_code
def yX2_setScan : MethodName := ⟨RX2, "setScan", "(II)I"⟩
abbrev cX2_setQuality : ByteArray := prog_4_method_15_code
def yX2_setQuality : MethodName := ⟨RX2, "setQuality", "(IIII)I"⟩
abbrev cX2_setAgeing : ByteArray := prog_4_method_16_code
def yX2_setAgeing : MethodName := ⟨RX2, "setAgeing", "(I)I"⟩
abbrev cX2_setNoise : ByteArray := prog_4_method_17_code
def yX2_setNoise : MethodName := ⟨RX2, "setNoise", "(I)I"⟩
abbrev cX2_pass : ByteArray := prog_4_method_18_code
def yX2_pass : MethodName := ⟨RX2, "pass", "(I)I"⟩
abbrev cX2_draw : ByteArray := prog_4_method_19_code
def yX2_draw : MethodName := ⟨RX2, "draw", "()I"⟩
abbrev cX2_majority : ByteArray := prog_4_method_20_code
def yX2_majority : MethodName := ⟨RX2, "majority", "(III)I"⟩
abbrev cX2_copyOf : ByteArray := prog_4_method_21_code
def yX2_copyOf : MethodName := ⟨RX2, "copyOf", "(II)I"⟩
abbrev cX2_transmit : ByteArray := prog_4_method_22_code
def yX2_transmit : MethodName := ⟨RX2, "transmit", "(IIIII)Z"⟩
abbrev cX2_listens : ByteArray := prog_4_method_23_code
def yX2_listens : MethodName := ⟨RX2, "listens", "(II)I"⟩
abbrev cX2_mostOf : ByteArray := prog_4_method_24_code
def yX2_mostOf : MethodName := ⟨RX2, "mostOf", "(I)I"⟩
abbrev cX2_sound : ByteArray := prog_4_method_25_code
def yX2_sound : MethodName := ⟨RX2, "sound", "(II)I"⟩
abbrev cX2_effectiveOf : ByteArray := prog_4_method_26_code
def yX2_effectiveOf : MethodName := ⟨RX2, "effectiveOf", "(III)I"⟩
abbrev cX2_sortChannels : ByteArray := prog_4_method_27_code
def yX2_sortChannels : MethodName := ⟨RX2, "sortChannels", "(II)I"⟩
abbrev cX2_attempt : ByteArray := prog_4_method_28_code
def yX2_attempt : MethodName := ⟨RX2, "attempt", "(III)Z"⟩
abbrev cX2_join : ByteArray := prog_4_method_29_code
def yX2_join : MethodName := ⟨RX2, "join", "(II)V"⟩
abbrev cX2_call : ByteArray := prog_4_method_30_code
def yX2_call : MethodName := ⟨RX2, "call", "(II)I"⟩
abbrev cX2_netScore : ByteArray := prog_4_method_31_code
def yX2_netScore : MethodName := ⟨RX2, "netScore", "(III)I"⟩
abbrev cX2_netChannelOf : ByteArray := prog_4_method_32_code
def yX2_netChannelOf : MethodName := ⟨RX2, "netChannelOf", "(II)I"⟩
abbrev cX2_isNet : ByteArray := prog_4_method_33_code
def yX2_isNet : MethodName := ⟨RX2, "isNet", "(II)Z"⟩
abbrev cX2_answers : ByteArray := prog_4_method_34_code
def yX2_answers : MethodName := ⟨RX2, "answers", "(III)Z"⟩
abbrev cX2_netCall : ByteArray := prog_4_method_35_code
def yX2_netCall : MethodName := ⟨RX2, "netCall", "(II)I"⟩
abbrev cX2_leave : ByteArray := prog_4_method_36_code
def yX2_leave : MethodName := ⟨RX2, "leave", "(I)V"⟩
abbrev cX2_hangUp : ByteArray := prog_4_method_37_code
def yX2_hangUp : MethodName := ⟨RX2, "hangUp", "(I)I"⟩
abbrev cX2_attempts : ByteArray := prog_4_method_38_code
def yX2_attempts : MethodName := ⟨RX2, "attempts", "()I"⟩
abbrev cX2_lastChannel : ByteArray := prog_4_method_39_code
def yX2_lastChannel : MethodName := ⟨RX2, "lastChannel", "()I"⟩
abbrev cX2_lastUnanimous : ByteArray := prog_4_method_40_code
def yX2_lastUnanimous : MethodName := ⟨RX2, "lastUnanimous", "()I"⟩
abbrev cX2_lastVoted : ByteArray := prog_4_method_41_code
def yX2_lastVoted : MethodName := ⟨RX2, "lastVoted", "()I"⟩
abbrev cX2_scan : ByteArray := prog_4_method_42_code
def yX2_scan : MethodName := ⟨RX2, "scan", "(I)I"⟩
abbrev cX2_listening : ByteArray := prog_4_method_43_code
def yX2_listening : MethodName := ⟨RX2, "listening", "(I)I"⟩
abbrev cX2_isThere : ByteArray := prog_4_method_44_code
def yX2_isThere : MethodName := ⟨RX2, "isThere", "(III)Z"⟩
abbrev cX2_quality : ByteArray := prog_4_method_45_code
def yX2_quality : MethodName := ⟨RX2, "quality", "(III)I"⟩
abbrev cX2_score : ByteArray := prog_4_method_46_code
def yX2_score : MethodName := ⟨RX2, "score", "(III)I"⟩
abbrev cX2_effective : ByteArray := prog_4_method_47_code
def yX2_effective : MethodName := ⟨RX2, "effective", "(III)I"⟩
abbrev cX2_bestChannel : ByteArray := prog_4_method_48_code
def yX2_bestChannel : MethodName := ⟨RX2, "bestChannel", "(II)I"⟩
abbrev cX2_netChannel : ByteArray := prog_4_method_49_code
def yX2_netChannel : MethodName := ⟨RX2, "netChannel", "(II)I"⟩
abbrev cX2_link : ByteArray := prog_4_method_50_code
def yX2_link : MethodName := ⟨RX2, "link", "(I)I"⟩
abbrev cX2_linkChannel : ByteArray := prog_4_method_51_code
def yX2_linkChannel : MethodName := ⟨RX2, "linkChannel", "(I)I"⟩
abbrev cX2_time : ByteArray := prog_4_method_52_code
def yX2_time : MethodName := ⟨RX2, "time", "()I"⟩
abbrev cX2_transmitted : ByteArray := prog_4_method_53_code
def yX2_transmitted : MethodName := ⟨RX2, "transmitted", "()I"⟩
abbrev cX2_decoded : ByteArray := prog_4_method_54_code
def yX2_decoded : MethodName := ⟨RX2, "decoded", "()I"⟩
abbrev cX2_isWord : ByteArray := prog_4_method_55_code
def yX2_isWord : MethodName := ⟨RX2, "isWord", "(I)Z"⟩
abbrev cX2_vote : ByteArray := prog_4_method_56_code
def yX2_vote : MethodName := ⟨RX2, "vote", "(III)I"⟩
abbrev cX2_errorCount : ByteArray := prog_4_method_57_code
def yX2_errorCount : MethodName := ⟨RX2, "errorCount", "(I)I"⟩
abbrev cX2_add : ByteArray := prog_4_method_58_code
def yX2_add : MethodName := ⟨RX2, "add", "(I)V"⟩
abbrev cX2_digest : ByteArray := prog_4_method_59_code
def yX2_digest : MethodName := ⟨RX2, "digest", "()J"⟩
def RJ6 : String := "java/lang/Integer"
def TJ6 : u_T := fun k => match k with
  | _ => ("", "", "", false)
def tyJ6 : Nat → FieldType := fun k => match k with
  | _ => .int
abbrev wsJ60 : List Cond := u_ws RJ6 TJ6 0
theorem nmJ6 : ∀ a, a < 0 → ∀ b, b < 0 → a ≠ b → (TJ6 a).2.1 ≠ (TJ6 b).2.1 := by decide +kernel
theorem tyJ6_ok : ∀ k, k < 0 → parseFieldDescriptor (TJ6 k).2.2.1 = some (tyJ6 k) := by decide +kernel
abbrev cJ6_bitCount_0f7a4 : ByteArray := prog_5_method_49_code
def yJ6_bitCount_0f7a4 : MethodName := ⟨RJ6, "bitCount", "(I)I"⟩
def RJ9 : String := "java/lang/Math"
def TJ9 : u_T := fun k => match k with
  | _ => ("", "", "", false)
def tyJ9 : Nat → FieldType := fun k => match k with
  | _ => .int
abbrev wsJ90 : List Cond := u_ws RJ9 TJ9 0
theorem nmJ9 : ∀ a, a < 0 → ∀ b, b < 0 → a ≠ b → (TJ9 a).2.1 ≠ (TJ9 b).2.1 := by decide +kernel
theorem tyJ9_ok : ∀ k, k < 0 → parseFieldDescriptor (TJ9 k).2.2.1 = some (tyJ9 k) := by decide +kernel
abbrev cJ9_floorMod_7cf53 : ByteArray := prog_6_method_50_code
def yJ9_floorMod_7cf53 : MethodName := ⟨RJ9, "floorMod", "(II)I"⟩
abbrev cJ9_max_7cf53 : ByteArray := prog_6_method_65_code
def yJ9_max_7cf53 : MethodName := ⟨RJ9, "max", "(II)I"⟩
abbrev cJ9_min_7cf53 : ByteArray := prog_6_method_69_code
def yJ9_min_7cf53 : MethodName := ⟨RJ9, "min", "(II)I"⟩
def RJ10 : String := "java/lang/System"
def TJ10 : u_T := fun k => match k with
  | _ => ("", "", "", false)
def tyJ10 : Nat → FieldType := fun k => match k with
  | _ => .int
abbrev wsJ100 : List Cond := u_ws RJ10 TJ10 0
theorem nmJ10 : ∀ a, a < 0 → ∀ b, b < 0 → a ≠ b → (TJ10 a).2.1 ≠ (TJ10 b).2.1 := by decide +kernel
theorem tyJ10_ok : ∀ k, k < 0 → parseFieldDescriptor (TJ10 k).2.2.1 = some (tyJ10 k) := by decide +kernel
def RJ7 : String := "java/util/Arrays"
def TJ7 : u_T := fun k => match k with
  | _ => ("", "", "", false)
def tyJ7 : Nat → FieldType := fun k => match k with
  | _ => .int
abbrev wsJ70 : List Cond := u_ws RJ7 TJ7 0
theorem nmJ7 : ∀ a, a < 0 → ∀ b, b < 0 → a ≠ b → (TJ7 a).2.1 ≠ (TJ7 b).2.1 := by decide +kernel
theorem tyJ7_ok : ∀ k, k < 0 → parseFieldDescriptor (TJ7 k).2.2.1 = some (tyJ7 k) := by decide +kernel
abbrev cJ7_fill_53178 : ByteArray := prog_8_method_103_code
def yJ7_fill_53178 : MethodName := ⟨RJ7, "fill", "([II)V"⟩
def RL : String := "LinkEstablisherLaw"
abbrev cL_law : ByteArray := code
def yL_law : MethodName := ⟨RL, "law", "([I)Z"⟩
def wsJ7_fill_53178 : List Cond := .code yJ7_fill_53178 cJ7_fill_53178 4 none :: ([])
def wsX0_init : List Cond := .code yX0_init cX0_init 1 none :: ([.methodLink RX0 3 objectInit, .instanceMethod objectInit, .code objectInit ⟨#[0xb1]⟩ 1 none, .fieldLink RX0 9 "LinkEstablisher$Network" "ageing" "I", .fieldLink RX0 15 "LinkEstablisher$Network" "noise" "I", .fieldLink RX0 18 "LinkEstablisher$Network" "callChannel" "I", .fieldLink RX0 21 "LinkEstablisher$Network" "wordUnanimous" "I", .fieldLink RX0 24 "LinkEstablisher$Network" "wordVoted" "I", .arrayClass .int, .fieldLink RX0 27 "LinkEstablisher$Network" "scanSets" "[I", .fieldLink RX0 31 "LinkEstablisher$Network" "linkSets" "[I", .fieldLink RX0 34 "LinkEstablisher$Network" "linkChannels" "[I", .fieldLink RX0 37 "LinkEstablisher$Network" "qualities" "[I", .fieldLink RX0 40 "LinkEstablisher$Network" "scores" "[I", .fieldLink RX0 43 "LinkEstablisher$Network" "scoreTimes" "[I", .fieldLink RX0 46 "LinkEstablisher$Network" "channelRanks" "[I", .methodLink RX0 49 yJ7_fill_53178, .static yJ7_fill_53178, .initialized RJ7, .code yJ7_fill_53178 cJ7_fill_53178 4 none] ++ wsX00)
def wsX0_copyFrom : List Cond := .code yX0_copyFrom cX0_copyFrom 2 none :: ([.fieldLink RX0 55 "LinkEstablisher$Network" "now" "I", .fieldLink RX0 9 "LinkEstablisher$Network" "ageing" "I", .fieldLink RX0 15 "LinkEstablisher$Network" "noise" "I", .fieldLink RX0 58 "LinkEstablisher$Network" "wordsSent" "I", .fieldLink RX0 61 "LinkEstablisher$Network" "wordsDecoded" "I", .fieldLink RX0 64 "LinkEstablisher$Network" "callAttempts" "I", .fieldLink RX0 18 "LinkEstablisher$Network" "callChannel" "I", .fieldLink RX0 21 "LinkEstablisher$Network" "wordUnanimous" "I", .fieldLink RX0 24 "LinkEstablisher$Network" "wordVoted" "I", .fieldLink RX0 27 "LinkEstablisher$Network" "scanSets" "[I", .methodLink RX0 67 arraycopyName, .native arraycopyName, .static arraycopyName, .initialized "java/lang/System", .fieldLink RX0 31 "LinkEstablisher$Network" "linkSets" "[I", .fieldLink RX0 34 "LinkEstablisher$Network" "linkChannels" "[I", .fieldLink RX0 37 "LinkEstablisher$Network" "qualities" "[I", .fieldLink RX0 40 "LinkEstablisher$Network" "scores" "[I", .fieldLink RX0 43 "LinkEstablisher$Network" "scoreTimes" "[I"] ++ wsX00)
def wsX0_isLinked : List Cond := .code yX0_isLinked cX0_isLinked 2 (some .boolean) :: ([.fieldLink RX0 31 "LinkEstablisher$Network" "linkSets" "[I"] ++ wsX00)
def wsJ6_bitCount_0f7a4 : List Cond := .code yJ6_bitCount_0f7a4 cJ6_bitCount_0f7a4 1 (some .int) :: ([.constant RJ6 265 (1431655765), .constant RJ6 266 (858993459), .constant RJ6 267 (252645135)])
def wsJ9_floorMod_7cf53 : List Cond := .code yJ9_floorMod_7cf53 cJ9_floorMod_7cf53 3 (some .int) :: ([])
def wsX1_contains : List Cond := .code yX1_contains cX1_contains 2 (some .boolean) :: ([])
def wsX0_scannedChannel : List Cond := .code yX0_scannedChannel cX0_scannedChannel 5 (some .int) :: ([.fieldLink RX0 27 "LinkEstablisher$Network" "scanSets" "[I", .fieldLink RX0 55 "LinkEstablisher$Network" "now" "I", .methodLink RX0 73 yJ6_bitCount_0f7a4, .static yJ6_bitCount_0f7a4, .initialized RJ6, .code yJ6_bitCount_0f7a4 cJ6_bitCount_0f7a4 1 (some .int), .constant RJ6 265 (1431655765), .constant RJ6 266 (858993459), .constant RJ6 267 (252645135), .methodLink RX0 79 yX0_isLinked, .instanceMethod yX0_isLinked, .selects RX0 yX0_isLinked yX0_isLinked, .initialized RX0, .code yX0_isLinked cX0_isLinked 2 (some .boolean), .fieldLink RX0 31 "LinkEstablisher$Network" "linkSets" "[I", .methodLink RX0 83 yJ9_floorMod_7cf53, .static yJ9_floorMod_7cf53, .initialized RJ9, .code yJ9_floorMod_7cf53 cJ9_floorMod_7cf53 3 (some .int), .static yX1_contains, .initialized RX1, .code yX1_contains cX1_contains 2 (some .boolean)] ++ wsX00)
def wsX0_hears : List Cond := .code yX0_hears cX0_hears 3 (some .boolean) :: ([.fieldLink RX0 27 "LinkEstablisher$Network" "scanSets" "[I", .methodLink RX0 79 yX0_isLinked, .instanceMethod yX0_isLinked, .selects RX0 yX0_isLinked yX0_isLinked, .initialized RX0, .code yX0_isLinked cX0_isLinked 2 (some .boolean), .fieldLink RX0 31 "LinkEstablisher$Network" "linkSets" "[I", .static yX1_contains, .initialized RX1, .code yX1_contains cX1_contains 2 (some .boolean)] ++ wsX00)
def wsX0_longestScan : List Cond := .code yX0_longestScan cX0_longestScan 4 (some .int) :: ([.fieldLink RX0 27 "LinkEstablisher$Network" "scanSets" "[I", .methodLink RX0 93 Lib.Math.max.name, .static Lib.Math.max.name, .initialized "java/lang/Math", .code Lib.Math.max.name Lib.Math.max.code 2 (some .int), .static yX1_contains, .initialized RX1, .code yX1_contains cX1_contains 2 (some .boolean), .methodLink RX0 73 yJ6_bitCount_0f7a4, .static yJ6_bitCount_0f7a4, .initialized RJ6, .code yJ6_bitCount_0f7a4 cJ6_bitCount_0f7a4 1 (some .int), .constant RJ6 265 (1431655765), .constant RJ6 266 (858993459), .constant RJ6 267 (252645135)] ++ wsX00)
def wsX0_drawNoise : List Cond := .code yX0_drawNoise cX0_drawNoise 1 (some .int) :: ([.fieldLink RX0 15 "LinkEstablisher$Network" "noise" "I", .constant RX0 96 (1103515245), .constant RX0 97 (2147483647), .constant RX0 98 (65536)] ++ wsX00)
def wsX0_receiveCopy : List Cond := .code yX0_receiveCopy cX0_receiveCopy 5 (some .int) :: ([.methodLink RX0 99 yX0_drawNoise, .instanceMethod yX0_drawNoise, .selects RX0 yX0_drawNoise yX0_drawNoise, .initialized RX0, .code yX0_drawNoise cX0_drawNoise 1 (some .int), .fieldLink RX0 15 "LinkEstablisher$Network" "noise" "I", .constant RX0 96 (1103515245), .constant RX0 97 (2147483647), .constant RX0 98 (65536)] ++ wsX00)
def wsX1_cell : List Cond := .code yX1_cell cX1_cell 3 (some .int) :: ([])
def wsX1_majority : List Cond := .code yX1_majority cX1_majority 3 (some .int) :: ([])
def wsX0_transmit_r1 : List Cond := [Cond.constant RX0 98 (65536), Cond.fieldLink RX0 37 "LinkEstablisher$Network" "qualities" "[I", Cond.fieldLink RX0 24 "LinkEstablisher$Network" "wordVoted" "I", Cond.fieldLink RX0 21 "LinkEstablisher$Network" "wordUnanimous" "I", Cond.fieldLink RX0 58 "LinkEstablisher$Network" "wordsSent" "I", Cond.fieldLink RX0 61 "LinkEstablisher$Network" "wordsDecoded" "I", Cond.fieldLink RX0 40 "LinkEstablisher$Network" "scores" "[I", Cond.fieldLink RX0 43 "LinkEstablisher$Network" "scoreTimes" "[I", Cond.fieldLink RX0 55 "LinkEstablisher$Network" "now" "I", Cond.static yX1_cell, Cond.initialized RX1, Cond.code yX1_cell cX1_cell 3 (some .int), Cond.methodLink RX0 107 yX0_receiveCopy, Cond.instanceMethod yX0_receiveCopy, Cond.selects RX0 yX0_receiveCopy yX0_receiveCopy, Cond.initialized RX0, Cond.code yX0_receiveCopy cX0_receiveCopy 5 (some .int), Cond.methodLink RX0 99 yX0_drawNoise, Cond.instanceMethod yX0_drawNoise, Cond.selects RX0 yX0_drawNoise yX0_drawNoise, Cond.code yX0_drawNoise cX0_drawNoise 1 (some .int), Cond.fieldLink RX0 15 "LinkEstablisher$Network" "noise" "I", Cond.constant RX0 96 (1103515245), Cond.constant RX0 97 (2147483647)]
def wsX0_transmit_r2 : List Cond := [Cond.static yX1_majority, Cond.code yX1_majority cX1_majority 3 (some .int), Cond.methodLink RX0 73 yJ6_bitCount_0f7a4, Cond.static yJ6_bitCount_0f7a4, Cond.initialized RJ6, Cond.code yJ6_bitCount_0f7a4 cJ6_bitCount_0f7a4 1 (some .int), Cond.constant RJ6 265 (1431655765), Cond.constant RJ6 266 (858993459), Cond.constant RJ6 267 (252645135)]
def wsX0_transmit : List Cond := .code yX0_transmit cX0_transmit 11 (some .boolean) :: ((wsX0_transmit_r1 ++ wsX0_transmit_r2) ++ wsX00)
def wsX0_agedScore : List Cond := .code yX0_agedScore cX0_agedScore 6 (some .int) :: ([.fieldLink RX0 40 "LinkEstablisher$Network" "scores" "[I", .fieldLink RX0 55 "LinkEstablisher$Network" "now" "I", .fieldLink RX0 43 "LinkEstablisher$Network" "scoreTimes" "[I", .fieldLink RX0 9 "LinkEstablisher$Network" "ageing" "I", .methodLink RX0 93 Lib.Math.max.name, .static Lib.Math.max.name, .initialized "java/lang/Math", .code Lib.Math.max.name Lib.Math.max.code 2 (some .int), .static yX1_cell, .initialized RX1, .code yX1_cell cX1_cell 3 (some .int)] ++ wsX00)
def wsX0_netScore : List Cond := .code yX0_netScore cX0_netScore 6 (some .int) :: ([.methodLink RX0 116 Lib.Math.min.name, .static Lib.Math.min.name, .initialized "java/lang/Math", .code Lib.Math.min.name Lib.Math.min.code 2 (some .int), .static yX1_contains, .initialized RX1, .code yX1_contains cX1_contains 2 (some .boolean), .methodLink RX0 113 yX0_agedScore, .instanceMethod yX0_agedScore, .selects RX0 yX0_agedScore yX0_agedScore, .initialized RX0, .code yX0_agedScore cX0_agedScore 6 (some .int), .fieldLink RX0 40 "LinkEstablisher$Network" "scores" "[I", .fieldLink RX0 55 "LinkEstablisher$Network" "now" "I", .fieldLink RX0 43 "LinkEstablisher$Network" "scoreTimes" "[I", .fieldLink RX0 9 "LinkEstablisher$Network" "ageing" "I", .methodLink RX0 93 Lib.Math.max.name, .static Lib.Math.max.name, .code Lib.Math.max.name Lib.Math.max.code 2 (some .int), .static yX1_cell, .code yX1_cell cX1_cell 3 (some .int)] ++ wsX00)
def wsX0_rankChannels_r1 : List Cond := [Cond.fieldLink RX0 46 "LinkEstablisher$Network" "channelRanks" "[I", Cond.methodLink RX0 119 yX0_netScore, Cond.instanceMethod yX0_netScore, Cond.selects RX0 yX0_netScore yX0_netScore, Cond.initialized RX0, Cond.code yX0_netScore cX0_netScore 6 (some .int), Cond.methodLink RX0 116 Lib.Math.min.name, Cond.static Lib.Math.min.name, Cond.initialized "java/lang/Math", Cond.code Lib.Math.min.name Lib.Math.min.code 2 (some .int), Cond.static yX1_contains, Cond.initialized RX1, Cond.code yX1_contains cX1_contains 2 (some .boolean), Cond.methodLink RX0 113 yX0_agedScore, Cond.instanceMethod yX0_agedScore, Cond.selects RX0 yX0_agedScore yX0_agedScore, Cond.code yX0_agedScore cX0_agedScore 6 (some .int), Cond.fieldLink RX0 40 "LinkEstablisher$Network" "scores" "[I", Cond.fieldLink RX0 55 "LinkEstablisher$Network" "now" "I", Cond.fieldLink RX0 43 "LinkEstablisher$Network" "scoreTimes" "[I", Cond.fieldLink RX0 9 "LinkEstablisher$Network" "ageing" "I", Cond.methodLink RX0 93 Lib.Math.max.name, Cond.static Lib.Math.max.name, Cond.code Lib.Math.max.name Lib.Math.max.code 2 (some .int)]
def wsX0_rankChannels_r2 : List Cond := [Cond.static yX1_cell, Cond.code yX1_cell cX1_cell 3 (some .int)]
def wsX0_rankChannels : List Cond := .code yX0_rankChannels cX0_rankChannels 4 none :: ((wsX0_rankChannels_r1 ++ wsX0_rankChannels_r2) ++ wsX00)
def wsX0_firstRanked : List Cond := .code yX0_firstRanked cX0_firstRanked 4 (some .int) :: ([.fieldLink RX0 46 "LinkEstablisher$Network" "channelRanks" "[I", .static yX1_contains, .initialized RX1, .code yX1_contains cX1_contains 2 (some .boolean)] ++ wsX00)
def wsX0_preferredChannel_r1 : List Cond := [Cond.fieldLink RX0 27 "LinkEstablisher$Network" "scanSets" "[I", Cond.methodLink RX0 122 yX0_rankChannels, Cond.instanceMethod yX0_rankChannels, Cond.selects RX0 yX0_rankChannels yX0_rankChannels, Cond.initialized RX0, Cond.code yX0_rankChannels cX0_rankChannels 4 none, Cond.fieldLink RX0 46 "LinkEstablisher$Network" "channelRanks" "[I", Cond.methodLink RX0 119 yX0_netScore, Cond.instanceMethod yX0_netScore, Cond.selects RX0 yX0_netScore yX0_netScore, Cond.code yX0_netScore cX0_netScore 6 (some .int), Cond.methodLink RX0 116 Lib.Math.min.name, Cond.static Lib.Math.min.name, Cond.initialized "java/lang/Math", Cond.code Lib.Math.min.name Lib.Math.min.code 2 (some .int), Cond.static yX1_contains, Cond.initialized RX1, Cond.code yX1_contains cX1_contains 2 (some .boolean), Cond.methodLink RX0 113 yX0_agedScore, Cond.instanceMethod yX0_agedScore, Cond.selects RX0 yX0_agedScore yX0_agedScore, Cond.code yX0_agedScore cX0_agedScore 6 (some .int), Cond.fieldLink RX0 40 "LinkEstablisher$Network" "scores" "[I", Cond.fieldLink RX0 55 "LinkEstablisher$Network" "now" "I"]
def wsX0_preferredChannel_r2 : List Cond := [Cond.fieldLink RX0 43 "LinkEstablisher$Network" "scoreTimes" "[I", Cond.fieldLink RX0 9 "LinkEstablisher$Network" "ageing" "I", Cond.methodLink RX0 93 Lib.Math.max.name, Cond.static Lib.Math.max.name, Cond.code Lib.Math.max.name Lib.Math.max.code 2 (some .int), Cond.static yX1_cell, Cond.code yX1_cell cX1_cell 3 (some .int), Cond.methodLink RX0 126 yX0_firstRanked, Cond.instanceMethod yX0_firstRanked, Cond.selects RX0 yX0_firstRanked yX0_firstRanked, Cond.code yX0_firstRanked cX0_firstRanked 4 (some .int)]
def wsX0_preferredChannel : List Cond := .code yX0_preferredChannel cX0_preferredChannel 3 (some .int) :: ((wsX0_preferredChannel_r1 ++ wsX0_preferredChannel_r2) ++ wsX00)
def wsX0_emitSounding_r1 : List Cond := [Cond.fieldLink RX0 55 "LinkEstablisher$Network" "now" "I", Cond.methodLink RX0 129 yX0_longestScan, Cond.instanceMethod yX0_longestScan, Cond.selects RX0 yX0_longestScan yX0_longestScan, Cond.initialized RX0, Cond.code yX0_longestScan cX0_longestScan 4 (some .int), Cond.fieldLink RX0 27 "LinkEstablisher$Network" "scanSets" "[I", Cond.methodLink RX0 93 Lib.Math.max.name, Cond.static Lib.Math.max.name, Cond.initialized "java/lang/Math", Cond.code Lib.Math.max.name Lib.Math.max.code 2 (some .int), Cond.static yX1_contains, Cond.initialized RX1, Cond.code yX1_contains cX1_contains 2 (some .boolean), Cond.methodLink RX0 73 yJ6_bitCount_0f7a4, Cond.static yJ6_bitCount_0f7a4, Cond.initialized RJ6, Cond.code yJ6_bitCount_0f7a4 cJ6_bitCount_0f7a4 1 (some .int), Cond.constant RJ6 265 (1431655765), Cond.constant RJ6 266 (858993459), Cond.constant RJ6 267 (252645135), Cond.methodLink RX0 132 yX0_hears, Cond.instanceMethod yX0_hears, Cond.selects RX0 yX0_hears yX0_hears]
def wsX0_emitSounding_r2 : List Cond := [Cond.code yX0_hears cX0_hears 3 (some .boolean), Cond.methodLink RX0 79 yX0_isLinked, Cond.instanceMethod yX0_isLinked, Cond.selects RX0 yX0_isLinked yX0_isLinked, Cond.code yX0_isLinked cX0_isLinked 2 (some .boolean), Cond.fieldLink RX0 31 "LinkEstablisher$Network" "linkSets" "[I", Cond.methodLink RX0 135 yX0_transmit, Cond.instanceMethod yX0_transmit, Cond.selects RX0 yX0_transmit yX0_transmit, Cond.code yX0_transmit cX0_transmit 11 (some .boolean), Cond.constant RX0 98 (65536), Cond.fieldLink RX0 37 "LinkEstablisher$Network" "qualities" "[I", Cond.fieldLink RX0 24 "LinkEstablisher$Network" "wordVoted" "I", Cond.fieldLink RX0 21 "LinkEstablisher$Network" "wordUnanimous" "I", Cond.fieldLink RX0 58 "LinkEstablisher$Network" "wordsSent" "I", Cond.fieldLink RX0 61 "LinkEstablisher$Network" "wordsDecoded" "I", Cond.fieldLink RX0 40 "LinkEstablisher$Network" "scores" "[I", Cond.fieldLink RX0 43 "LinkEstablisher$Network" "scoreTimes" "[I", Cond.static yX1_cell, Cond.code yX1_cell cX1_cell 3 (some .int), Cond.methodLink RX0 107 yX0_receiveCopy, Cond.instanceMethod yX0_receiveCopy, Cond.selects RX0 yX0_receiveCopy yX0_receiveCopy, Cond.code yX0_receiveCopy cX0_receiveCopy 5 (some .int)]
def wsX0_emitSounding_r3 : List Cond := [Cond.methodLink RX0 99 yX0_drawNoise, Cond.instanceMethod yX0_drawNoise, Cond.selects RX0 yX0_drawNoise yX0_drawNoise, Cond.code yX0_drawNoise cX0_drawNoise 1 (some .int), Cond.fieldLink RX0 15 "LinkEstablisher$Network" "noise" "I", Cond.constant RX0 96 (1103515245), Cond.constant RX0 97 (2147483647), Cond.static yX1_majority, Cond.code yX1_majority cX1_majority 3 (some .int)]
def wsX0_emitSounding : List Cond := .code yX0_emitSounding cX0_emitSounding 5 (some .int) :: ((wsX0_emitSounding_r1 ++ (wsX0_emitSounding_r2 ++ wsX0_emitSounding_r3)) ++ wsX00)
def wsX0_shakeHands_r1 : List Cond := [Cond.fieldLink RX0 55 "LinkEstablisher$Network" "now" "I", Cond.fieldLink RX0 27 "LinkEstablisher$Network" "scanSets" "[I", Cond.methodLink RX0 73 yJ6_bitCount_0f7a4, Cond.static yJ6_bitCount_0f7a4, Cond.initialized RJ6, Cond.code yJ6_bitCount_0f7a4 cJ6_bitCount_0f7a4 1 (some .int), Cond.constant RJ6 265 (1431655765), Cond.constant RJ6 266 (858993459), Cond.constant RJ6 267 (252645135), Cond.methodLink RX0 132 yX0_hears, Cond.instanceMethod yX0_hears, Cond.selects RX0 yX0_hears yX0_hears, Cond.initialized RX0, Cond.code yX0_hears cX0_hears 3 (some .boolean), Cond.methodLink RX0 79 yX0_isLinked, Cond.instanceMethod yX0_isLinked, Cond.selects RX0 yX0_isLinked yX0_isLinked, Cond.code yX0_isLinked cX0_isLinked 2 (some .boolean), Cond.fieldLink RX0 31 "LinkEstablisher$Network" "linkSets" "[I", Cond.static yX1_contains, Cond.initialized RX1, Cond.code yX1_contains cX1_contains 2 (some .boolean), Cond.methodLink RX0 135 yX0_transmit, Cond.instanceMethod yX0_transmit]
def wsX0_shakeHands_r2 : List Cond := [Cond.selects RX0 yX0_transmit yX0_transmit, Cond.code yX0_transmit cX0_transmit 11 (some .boolean), Cond.constant RX0 98 (65536), Cond.fieldLink RX0 37 "LinkEstablisher$Network" "qualities" "[I", Cond.fieldLink RX0 24 "LinkEstablisher$Network" "wordVoted" "I", Cond.fieldLink RX0 21 "LinkEstablisher$Network" "wordUnanimous" "I", Cond.fieldLink RX0 58 "LinkEstablisher$Network" "wordsSent" "I", Cond.fieldLink RX0 61 "LinkEstablisher$Network" "wordsDecoded" "I", Cond.fieldLink RX0 40 "LinkEstablisher$Network" "scores" "[I", Cond.fieldLink RX0 43 "LinkEstablisher$Network" "scoreTimes" "[I", Cond.static yX1_cell, Cond.code yX1_cell cX1_cell 3 (some .int), Cond.methodLink RX0 107 yX0_receiveCopy, Cond.instanceMethod yX0_receiveCopy, Cond.selects RX0 yX0_receiveCopy yX0_receiveCopy, Cond.code yX0_receiveCopy cX0_receiveCopy 5 (some .int), Cond.methodLink RX0 99 yX0_drawNoise, Cond.instanceMethod yX0_drawNoise, Cond.selects RX0 yX0_drawNoise yX0_drawNoise, Cond.code yX0_drawNoise cX0_drawNoise 1 (some .int), Cond.fieldLink RX0 15 "LinkEstablisher$Network" "noise" "I", Cond.constant RX0 96 (1103515245), Cond.constant RX0 97 (2147483647), Cond.static yX1_majority]
def wsX0_shakeHands_r3 : List Cond := [Cond.code yX1_majority cX1_majority 3 (some .int)]
def wsX0_shakeHands : List Cond := .code yX0_shakeHands cX0_shakeHands 4 (some .boolean) :: ((wsX0_shakeHands_r1 ++ (wsX0_shakeHands_r2 ++ wsX0_shakeHands_r3)) ++ wsX00)
def wsX0_joinLink : List Cond := .code yX0_joinLink cX0_joinLink 4 none :: ([.fieldLink RX0 31 "LinkEstablisher$Network" "linkSets" "[I", .fieldLink RX0 34 "LinkEstablisher$Network" "linkChannels" "[I", .static yX1_contains, .initialized RX1, .code yX1_contains cX1_contains 2 (some .boolean)] ++ wsX00)
def wsX0_callOne_r1 : List Cond := [Cond.fieldLink RX0 64 "LinkEstablisher$Network" "callAttempts" "I", Cond.fieldLink RX0 27 "LinkEstablisher$Network" "scanSets" "[I", Cond.fieldLink RX0 18 "LinkEstablisher$Network" "callChannel" "I", Cond.methodLink RX0 122 yX0_rankChannels, Cond.instanceMethod yX0_rankChannels, Cond.selects RX0 yX0_rankChannels yX0_rankChannels, Cond.initialized RX0, Cond.code yX0_rankChannels cX0_rankChannels 4 none, Cond.fieldLink RX0 46 "LinkEstablisher$Network" "channelRanks" "[I", Cond.methodLink RX0 119 yX0_netScore, Cond.instanceMethod yX0_netScore, Cond.selects RX0 yX0_netScore yX0_netScore, Cond.code yX0_netScore cX0_netScore 6 (some .int), Cond.methodLink RX0 116 Lib.Math.min.name, Cond.static Lib.Math.min.name, Cond.initialized "java/lang/Math", Cond.code Lib.Math.min.name Lib.Math.min.code 2 (some .int), Cond.static yX1_contains, Cond.initialized RX1, Cond.code yX1_contains cX1_contains 2 (some .boolean), Cond.methodLink RX0 113 yX0_agedScore, Cond.instanceMethod yX0_agedScore, Cond.selects RX0 yX0_agedScore yX0_agedScore, Cond.code yX0_agedScore cX0_agedScore 6 (some .int)]
def wsX0_callOne_r2 : List Cond := [Cond.fieldLink RX0 40 "LinkEstablisher$Network" "scores" "[I", Cond.fieldLink RX0 55 "LinkEstablisher$Network" "now" "I", Cond.fieldLink RX0 43 "LinkEstablisher$Network" "scoreTimes" "[I", Cond.fieldLink RX0 9 "LinkEstablisher$Network" "ageing" "I", Cond.methodLink RX0 93 Lib.Math.max.name, Cond.static Lib.Math.max.name, Cond.code Lib.Math.max.name Lib.Math.max.code 2 (some .int), Cond.static yX1_cell, Cond.code yX1_cell cX1_cell 3 (some .int), Cond.methodLink RX0 126 yX0_firstRanked, Cond.instanceMethod yX0_firstRanked, Cond.selects RX0 yX0_firstRanked yX0_firstRanked, Cond.code yX0_firstRanked cX0_firstRanked 4 (some .int), Cond.methodLink RX0 139 yX0_shakeHands, Cond.instanceMethod yX0_shakeHands, Cond.selects RX0 yX0_shakeHands yX0_shakeHands, Cond.code yX0_shakeHands cX0_shakeHands 4 (some .boolean), Cond.methodLink RX0 73 yJ6_bitCount_0f7a4, Cond.static yJ6_bitCount_0f7a4, Cond.initialized RJ6, Cond.code yJ6_bitCount_0f7a4 cJ6_bitCount_0f7a4 1 (some .int), Cond.constant RJ6 265 (1431655765), Cond.constant RJ6 266 (858993459), Cond.constant RJ6 267 (252645135)]
def wsX0_callOne_r3 : List Cond := [Cond.methodLink RX0 132 yX0_hears, Cond.instanceMethod yX0_hears, Cond.selects RX0 yX0_hears yX0_hears, Cond.code yX0_hears cX0_hears 3 (some .boolean), Cond.methodLink RX0 79 yX0_isLinked, Cond.instanceMethod yX0_isLinked, Cond.selects RX0 yX0_isLinked yX0_isLinked, Cond.code yX0_isLinked cX0_isLinked 2 (some .boolean), Cond.fieldLink RX0 31 "LinkEstablisher$Network" "linkSets" "[I", Cond.methodLink RX0 135 yX0_transmit, Cond.instanceMethod yX0_transmit, Cond.selects RX0 yX0_transmit yX0_transmit, Cond.code yX0_transmit cX0_transmit 11 (some .boolean), Cond.constant RX0 98 (65536), Cond.fieldLink RX0 37 "LinkEstablisher$Network" "qualities" "[I", Cond.fieldLink RX0 24 "LinkEstablisher$Network" "wordVoted" "I", Cond.fieldLink RX0 21 "LinkEstablisher$Network" "wordUnanimous" "I", Cond.fieldLink RX0 58 "LinkEstablisher$Network" "wordsSent" "I", Cond.fieldLink RX0 61 "LinkEstablisher$Network" "wordsDecoded" "I", Cond.methodLink RX0 107 yX0_receiveCopy, Cond.instanceMethod yX0_receiveCopy, Cond.selects RX0 yX0_receiveCopy yX0_receiveCopy, Cond.code yX0_receiveCopy cX0_receiveCopy 5 (some .int), Cond.methodLink RX0 99 yX0_drawNoise]
def wsX0_callOne_r4 : List Cond := [Cond.instanceMethod yX0_drawNoise, Cond.selects RX0 yX0_drawNoise yX0_drawNoise, Cond.code yX0_drawNoise cX0_drawNoise 1 (some .int), Cond.fieldLink RX0 15 "LinkEstablisher$Network" "noise" "I", Cond.constant RX0 96 (1103515245), Cond.constant RX0 97 (2147483647), Cond.static yX1_majority, Cond.code yX1_majority cX1_majority 3 (some .int), Cond.methodLink RX0 143 yX0_joinLink, Cond.instanceMethod yX0_joinLink, Cond.selects RX0 yX0_joinLink yX0_joinLink, Cond.code yX0_joinLink cX0_joinLink 4 none, Cond.fieldLink RX0 34 "LinkEstablisher$Network" "linkChannels" "[I"]
def wsX0_callOne : List Cond := .code yX0_callOne cX0_callOne 6 (some .int) :: ((wsX0_callOne_r1 ++ (wsX0_callOne_r2 ++ (wsX0_callOne_r3 ++ wsX0_callOne_r4))) ++ wsX00)
def wsX0_answersNetCall_r1 : List Cond := [Cond.fieldLink RX0 55 "LinkEstablisher$Network" "now" "I", Cond.methodLink RX0 132 yX0_hears, Cond.instanceMethod yX0_hears, Cond.selects RX0 yX0_hears yX0_hears, Cond.initialized RX0, Cond.code yX0_hears cX0_hears 3 (some .boolean), Cond.fieldLink RX0 27 "LinkEstablisher$Network" "scanSets" "[I", Cond.methodLink RX0 79 yX0_isLinked, Cond.instanceMethod yX0_isLinked, Cond.selects RX0 yX0_isLinked yX0_isLinked, Cond.code yX0_isLinked cX0_isLinked 2 (some .boolean), Cond.fieldLink RX0 31 "LinkEstablisher$Network" "linkSets" "[I", Cond.static yX1_contains, Cond.initialized RX1, Cond.code yX1_contains cX1_contains 2 (some .boolean), Cond.methodLink RX0 135 yX0_transmit, Cond.instanceMethod yX0_transmit, Cond.selects RX0 yX0_transmit yX0_transmit, Cond.code yX0_transmit cX0_transmit 11 (some .boolean), Cond.constant RX0 98 (65536), Cond.fieldLink RX0 37 "LinkEstablisher$Network" "qualities" "[I", Cond.fieldLink RX0 24 "LinkEstablisher$Network" "wordVoted" "I", Cond.fieldLink RX0 21 "LinkEstablisher$Network" "wordUnanimous" "I", Cond.fieldLink RX0 58 "LinkEstablisher$Network" "wordsSent" "I"]
def wsX0_answersNetCall_r2 : List Cond := [Cond.fieldLink RX0 61 "LinkEstablisher$Network" "wordsDecoded" "I", Cond.fieldLink RX0 40 "LinkEstablisher$Network" "scores" "[I", Cond.fieldLink RX0 43 "LinkEstablisher$Network" "scoreTimes" "[I", Cond.static yX1_cell, Cond.code yX1_cell cX1_cell 3 (some .int), Cond.methodLink RX0 107 yX0_receiveCopy, Cond.instanceMethod yX0_receiveCopy, Cond.selects RX0 yX0_receiveCopy yX0_receiveCopy, Cond.code yX0_receiveCopy cX0_receiveCopy 5 (some .int), Cond.methodLink RX0 99 yX0_drawNoise, Cond.instanceMethod yX0_drawNoise, Cond.selects RX0 yX0_drawNoise yX0_drawNoise, Cond.code yX0_drawNoise cX0_drawNoise 1 (some .int), Cond.fieldLink RX0 15 "LinkEstablisher$Network" "noise" "I", Cond.constant RX0 96 (1103515245), Cond.constant RX0 97 (2147483647), Cond.static yX1_majority, Cond.code yX1_majority cX1_majority 3 (some .int), Cond.methodLink RX0 73 yJ6_bitCount_0f7a4, Cond.static yJ6_bitCount_0f7a4, Cond.initialized RJ6, Cond.code yJ6_bitCount_0f7a4 cJ6_bitCount_0f7a4 1 (some .int), Cond.constant RJ6 265 (1431655765), Cond.constant RJ6 266 (858993459)]
def wsX0_answersNetCall_r3 : List Cond := [Cond.constant RJ6 267 (252645135)]
def wsX0_answersNetCall : List Cond := .code yX0_answersNetCall cX0_answersNetCall 4 (some .boolean) :: ((wsX0_answersNetCall_r1 ++ (wsX0_answersNetCall_r2 ++ wsX0_answersNetCall_r3)) ++ wsX00)
def wsX0_callMany_r1 : List Cond := [Cond.fieldLink RX0 64 "LinkEstablisher$Network" "callAttempts" "I", Cond.fieldLink RX0 18 "LinkEstablisher$Network" "callChannel" "I", Cond.fieldLink RX0 55 "LinkEstablisher$Network" "now" "I", Cond.methodLink RX0 146 yX0_preferredChannel, Cond.instanceMethod yX0_preferredChannel, Cond.selects RX0 yX0_preferredChannel yX0_preferredChannel, Cond.initialized RX0, Cond.code yX0_preferredChannel cX0_preferredChannel 3 (some .int), Cond.fieldLink RX0 27 "LinkEstablisher$Network" "scanSets" "[I", Cond.methodLink RX0 122 yX0_rankChannels, Cond.instanceMethod yX0_rankChannels, Cond.selects RX0 yX0_rankChannels yX0_rankChannels, Cond.code yX0_rankChannels cX0_rankChannels 4 none, Cond.fieldLink RX0 46 "LinkEstablisher$Network" "channelRanks" "[I", Cond.methodLink RX0 119 yX0_netScore, Cond.instanceMethod yX0_netScore, Cond.selects RX0 yX0_netScore yX0_netScore, Cond.code yX0_netScore cX0_netScore 6 (some .int), Cond.methodLink RX0 116 Lib.Math.min.name, Cond.static Lib.Math.min.name, Cond.initialized "java/lang/Math", Cond.code Lib.Math.min.name Lib.Math.min.code 2 (some .int), Cond.static yX1_contains, Cond.initialized RX1]
def wsX0_callMany_r2 : List Cond := [Cond.code yX1_contains cX1_contains 2 (some .boolean), Cond.methodLink RX0 113 yX0_agedScore, Cond.instanceMethod yX0_agedScore, Cond.selects RX0 yX0_agedScore yX0_agedScore, Cond.code yX0_agedScore cX0_agedScore 6 (some .int), Cond.fieldLink RX0 40 "LinkEstablisher$Network" "scores" "[I", Cond.fieldLink RX0 43 "LinkEstablisher$Network" "scoreTimes" "[I", Cond.fieldLink RX0 9 "LinkEstablisher$Network" "ageing" "I", Cond.methodLink RX0 93 Lib.Math.max.name, Cond.static Lib.Math.max.name, Cond.code Lib.Math.max.name Lib.Math.max.code 2 (some .int), Cond.static yX1_cell, Cond.code yX1_cell cX1_cell 3 (some .int), Cond.methodLink RX0 126 yX0_firstRanked, Cond.instanceMethod yX0_firstRanked, Cond.selects RX0 yX0_firstRanked yX0_firstRanked, Cond.code yX0_firstRanked cX0_firstRanked 4 (some .int), Cond.methodLink RX0 129 yX0_longestScan, Cond.instanceMethod yX0_longestScan, Cond.selects RX0 yX0_longestScan yX0_longestScan, Cond.code yX0_longestScan cX0_longestScan 4 (some .int), Cond.methodLink RX0 73 yJ6_bitCount_0f7a4, Cond.static yJ6_bitCount_0f7a4, Cond.initialized RJ6]
def wsX0_callMany_r3 : List Cond := [Cond.code yJ6_bitCount_0f7a4 cJ6_bitCount_0f7a4 1 (some .int), Cond.constant RJ6 265 (1431655765), Cond.constant RJ6 266 (858993459), Cond.constant RJ6 267 (252645135), Cond.methodLink RX0 149 yX0_answersNetCall, Cond.instanceMethod yX0_answersNetCall, Cond.selects RX0 yX0_answersNetCall yX0_answersNetCall, Cond.code yX0_answersNetCall cX0_answersNetCall 4 (some .boolean), Cond.methodLink RX0 132 yX0_hears, Cond.instanceMethod yX0_hears, Cond.selects RX0 yX0_hears yX0_hears, Cond.code yX0_hears cX0_hears 3 (some .boolean), Cond.methodLink RX0 79 yX0_isLinked, Cond.instanceMethod yX0_isLinked, Cond.selects RX0 yX0_isLinked yX0_isLinked, Cond.code yX0_isLinked cX0_isLinked 2 (some .boolean), Cond.fieldLink RX0 31 "LinkEstablisher$Network" "linkSets" "[I", Cond.methodLink RX0 135 yX0_transmit, Cond.instanceMethod yX0_transmit, Cond.selects RX0 yX0_transmit yX0_transmit, Cond.code yX0_transmit cX0_transmit 11 (some .boolean), Cond.constant RX0 98 (65536), Cond.fieldLink RX0 37 "LinkEstablisher$Network" "qualities" "[I", Cond.fieldLink RX0 24 "LinkEstablisher$Network" "wordVoted" "I"]
def wsX0_callMany_r4 : List Cond := [Cond.fieldLink RX0 21 "LinkEstablisher$Network" "wordUnanimous" "I", Cond.fieldLink RX0 58 "LinkEstablisher$Network" "wordsSent" "I", Cond.fieldLink RX0 61 "LinkEstablisher$Network" "wordsDecoded" "I", Cond.methodLink RX0 107 yX0_receiveCopy, Cond.instanceMethod yX0_receiveCopy, Cond.selects RX0 yX0_receiveCopy yX0_receiveCopy, Cond.code yX0_receiveCopy cX0_receiveCopy 5 (some .int), Cond.methodLink RX0 99 yX0_drawNoise, Cond.instanceMethod yX0_drawNoise, Cond.selects RX0 yX0_drawNoise yX0_drawNoise, Cond.code yX0_drawNoise cX0_drawNoise 1 (some .int), Cond.fieldLink RX0 15 "LinkEstablisher$Network" "noise" "I", Cond.constant RX0 96 (1103515245), Cond.constant RX0 97 (2147483647), Cond.static yX1_majority, Cond.code yX1_majority cX1_majority 3 (some .int), Cond.methodLink RX0 143 yX0_joinLink, Cond.instanceMethod yX0_joinLink, Cond.selects RX0 yX0_joinLink yX0_joinLink, Cond.code yX0_joinLink cX0_joinLink 4 none, Cond.fieldLink RX0 34 "LinkEstablisher$Network" "linkChannels" "[I"]
def wsX0_callMany : List Cond := .code yX0_callMany cX0_callMany 7 (some .int) :: ((wsX0_callMany_r1 ++ (wsX0_callMany_r2 ++ (wsX0_callMany_r3 ++ wsX0_callMany_r4))) ++ wsX00)
def wsX0_dropLink : List Cond := .code yX0_dropLink cX0_dropLink 2 none :: ([.fieldLink RX0 31 "LinkEstablisher$Network" "linkSets" "[I", .fieldLink RX0 34 "LinkEstablisher$Network" "linkChannels" "[I"] ++ wsX00)
def wsX0_leaveLink : List Cond := .code yX0_leaveLink cX0_leaveLink 5 (some .int) :: ([.fieldLink RX0 31 "LinkEstablisher$Network" "linkSets" "[I", .methodLink RX0 73 yJ6_bitCount_0f7a4, .static yJ6_bitCount_0f7a4, .initialized RJ6, .code yJ6_bitCount_0f7a4 cJ6_bitCount_0f7a4 1 (some .int), .constant RJ6 265 (1431655765), .constant RJ6 266 (858993459), .constant RJ6 267 (252645135), .methodLink RX0 152 yX0_dropLink, .instanceMethod yX0_dropLink, .selects RX0 yX0_dropLink yX0_dropLink, .initialized RX0, .code yX0_dropLink cX0_dropLink 2 none, .fieldLink RX0 34 "LinkEstablisher$Network" "linkChannels" "[I", .static yX1_contains, .initialized RX1, .code yX1_contains cX1_contains 2 (some .boolean)] ++ wsX00)
def wsX1_mix : List Cond := .code yX1_mix cX1_mix 4 (some .long) :: ([.constantLong RX1 169 (31)])
def wsX0_mixCounters : List Cond := .code yX0_mixCounters cX0_mixCounters 5 (some .long) :: ([.fieldLink RX0 55 "LinkEstablisher$Network" "now" "I", .fieldLink RX0 9 "LinkEstablisher$Network" "ageing" "I", .fieldLink RX0 15 "LinkEstablisher$Network" "noise" "I", .fieldLink RX0 58 "LinkEstablisher$Network" "wordsSent" "I", .fieldLink RX0 61 "LinkEstablisher$Network" "wordsDecoded" "I", .fieldLink RX0 64 "LinkEstablisher$Network" "callAttempts" "I", .fieldLink RX0 18 "LinkEstablisher$Network" "callChannel" "I", .fieldLink RX0 21 "LinkEstablisher$Network" "wordUnanimous" "I", .fieldLink RX0 24 "LinkEstablisher$Network" "wordVoted" "I", .static yX1_mix, .initialized RX1, .code yX1_mix cX1_mix 4 (some .long), .constantLong RX1 169 (31)] ++ wsX00)
def wsX0_mixStations : List Cond := .code yX0_mixStations cX0_mixStations 6 (some .long) :: ([.fieldLink RX0 27 "LinkEstablisher$Network" "scanSets" "[I", .fieldLink RX0 31 "LinkEstablisher$Network" "linkSets" "[I", .fieldLink RX0 34 "LinkEstablisher$Network" "linkChannels" "[I", .static yX1_mix, .initialized RX1, .code yX1_mix cX1_mix 4 (some .long), .constantLong RX1 169 (31)] ++ wsX00)
def wsX0_mixScores : List Cond := .code yX0_mixScores cX0_mixScores 8 (some .long) :: ([.fieldLink RX0 40 "LinkEstablisher$Network" "scores" "[I", .static yX1_cell, .initialized RX1, .code yX1_cell cX1_cell 3 (some .int), .static yX1_mix, .code yX1_mix cX1_mix 4 (some .long), .constantLong RX1 169 (31), .methodLink RX0 113 yX0_agedScore, .instanceMethod yX0_agedScore, .selects RX0 yX0_agedScore yX0_agedScore, .initialized RX0, .code yX0_agedScore cX0_agedScore 6 (some .int), .fieldLink RX0 55 "LinkEstablisher$Network" "now" "I", .fieldLink RX0 43 "LinkEstablisher$Network" "scoreTimes" "[I", .fieldLink RX0 9 "LinkEstablisher$Network" "ageing" "I", .methodLink RX0 93 Lib.Math.max.name, .static Lib.Math.max.name, .initialized "java/lang/Math", .code Lib.Math.max.name Lib.Math.max.code 2 (some .int)] ++ wsX00)
def wsX1_init_r1 : List Cond := [Cond.methodLink RX1 3 objectInit, Cond.instanceMethod objectInit, Cond.code objectInit ⟨#[0xb1]⟩ 1 none, Cond.classLink RX1 9 RX0, Cond.instantiable RX0 16, Cond.initialized RX0, Cond.fieldLink RX1 12 "LinkEstablisher" "network" "LLinkEstablisher$Network;", Cond.fieldLink RX1 16 "LinkEstablisher" "savedStates" "[LLinkEstablisher$Network;", Cond.methodLink RX1 11 yX0_init, Cond.instanceMethod yX0_init, Cond.code yX0_init cX0_init 1 none, Cond.methodLink RX0 3 objectInit, Cond.fieldLink RX0 9 "LinkEstablisher$Network" "ageing" "I", Cond.fieldLink RX0 15 "LinkEstablisher$Network" "noise" "I", Cond.fieldLink RX0 18 "LinkEstablisher$Network" "callChannel" "I", Cond.fieldLink RX0 21 "LinkEstablisher$Network" "wordUnanimous" "I", Cond.fieldLink RX0 24 "LinkEstablisher$Network" "wordVoted" "I", Cond.arrayClass .int, Cond.fieldLink RX0 27 "LinkEstablisher$Network" "scanSets" "[I", Cond.fieldLink RX0 31 "LinkEstablisher$Network" "linkSets" "[I", Cond.fieldLink RX0 34 "LinkEstablisher$Network" "linkChannels" "[I", Cond.fieldLink RX0 37 "LinkEstablisher$Network" "qualities" "[I", Cond.fieldLink RX0 40 "LinkEstablisher$Network" "scores" "[I", Cond.fieldLink RX0 43 "LinkEstablisher$Network" "scoreTimes" "[I"]
def wsX1_init_r2 : List Cond := [Cond.fieldLink RX0 46 "LinkEstablisher$Network" "channelRanks" "[I", Cond.methodLink RX0 49 yJ7_fill_53178, Cond.static yJ7_fill_53178, Cond.initialized RJ7, Cond.code yJ7_fill_53178 cJ7_fill_53178 4 none]
def wsX1_init : List Cond := .code yX1_init cX1_init 2 none :: ((wsX1_init_r1 ++ wsX1_init_r2) ++ wsX00 ++ wsX10)
def wsX1_isStation : List Cond := .code yX1_isStation cX1_isStation 1 (some .boolean) :: ([])
def wsX1_countInvalid : List Cond := .code yX1_countInvalid cX1_countInvalid 1 (some .int) :: ([.fieldLink RX1 138 "LinkEstablisher" "invalidCalls" "I"] ++ wsX10)
def wsX1_saveState_r1 : List Cond := [Cond.fieldLink RX1 16 "LinkEstablisher" "savedStates" "[LLinkEstablisher$Network;", Cond.fieldLink RX1 131 "LinkEstablisher" "nextSaved" "I", Cond.fieldLink RX1 12 "LinkEstablisher" "network" "LLinkEstablisher$Network;", Cond.fieldLink RX1 128 "LinkEstablisher" "savedCount" "I", Cond.methodLink RX1 160 Lib.Math.min.name, Cond.static Lib.Math.min.name, Cond.initialized "java/lang/Math", Cond.code Lib.Math.min.name Lib.Math.min.code 2 (some .int), Cond.methodLink RX1 134 yX0_copyFrom, Cond.instanceMethod yX0_copyFrom, Cond.selects RX0 yX0_copyFrom yX0_copyFrom, Cond.initialized RX0, Cond.code yX0_copyFrom cX0_copyFrom 2 none, Cond.fieldLink RX0 55 "LinkEstablisher$Network" "now" "I", Cond.fieldLink RX0 9 "LinkEstablisher$Network" "ageing" "I", Cond.fieldLink RX0 15 "LinkEstablisher$Network" "noise" "I", Cond.fieldLink RX0 58 "LinkEstablisher$Network" "wordsSent" "I", Cond.fieldLink RX0 61 "LinkEstablisher$Network" "wordsDecoded" "I", Cond.fieldLink RX0 64 "LinkEstablisher$Network" "callAttempts" "I", Cond.fieldLink RX0 18 "LinkEstablisher$Network" "callChannel" "I", Cond.fieldLink RX0 21 "LinkEstablisher$Network" "wordUnanimous" "I", Cond.fieldLink RX0 24 "LinkEstablisher$Network" "wordVoted" "I", Cond.fieldLink RX0 27 "LinkEstablisher$Network" "scanSets" "[I", Cond.methodLink RX0 67 arraycopyName]
def wsX1_saveState_r2 : List Cond := [Cond.native arraycopyName, Cond.static arraycopyName, Cond.initialized "java/lang/System", Cond.fieldLink RX0 31 "LinkEstablisher$Network" "linkSets" "[I", Cond.fieldLink RX0 34 "LinkEstablisher$Network" "linkChannels" "[I", Cond.fieldLink RX0 37 "LinkEstablisher$Network" "qualities" "[I", Cond.fieldLink RX0 40 "LinkEstablisher$Network" "scores" "[I", Cond.fieldLink RX0 43 "LinkEstablisher$Network" "scoreTimes" "[I"]
def wsX1_saveState : List Cond := .code yX1_saveState cX1_saveState 1 none :: ((wsX1_saveState_r1 ++ wsX1_saveState_r2) ++ wsX10 ++ wsX00)
def wsX1_setScan_r1 : List Cond := [Cond.fieldLink RX1 12 "LinkEstablisher" "network" "LLinkEstablisher$Network;", Cond.fieldLink RX1 31 "LinkEstablisher$Network" "scanSets" "[I", Cond.methodLink RX1 20 yX1_isStation, Cond.static yX1_isStation, Cond.initialized RX1, Cond.code yX1_isStation cX1_isStation 1 (some .boolean), Cond.methodLink RX1 24 yX1_countInvalid, Cond.instanceMethod yX1_countInvalid, Cond.selects RX1 yX1_countInvalid yX1_countInvalid, Cond.code yX1_countInvalid cX1_countInvalid 1 (some .int), Cond.fieldLink RX1 138 "LinkEstablisher" "invalidCalls" "I", Cond.methodLink RX1 28 yX1_saveState, Cond.instanceMethod yX1_saveState, Cond.selects RX1 yX1_saveState yX1_saveState, Cond.code yX1_saveState cX1_saveState 1 none, Cond.fieldLink RX1 16 "LinkEstablisher" "savedStates" "[LLinkEstablisher$Network;", Cond.fieldLink RX1 131 "LinkEstablisher" "nextSaved" "I", Cond.fieldLink RX1 128 "LinkEstablisher" "savedCount" "I", Cond.methodLink RX1 160 Lib.Math.min.name, Cond.static Lib.Math.min.name, Cond.initialized "java/lang/Math", Cond.code Lib.Math.min.name Lib.Math.min.code 2 (some .int), Cond.methodLink RX1 134 yX0_copyFrom, Cond.instanceMethod yX0_copyFrom]
def wsX1_setScan_r2 : List Cond := [Cond.selects RX0 yX0_copyFrom yX0_copyFrom, Cond.initialized RX0, Cond.code yX0_copyFrom cX0_copyFrom 2 none, Cond.fieldLink RX0 55 "LinkEstablisher$Network" "now" "I", Cond.fieldLink RX0 9 "LinkEstablisher$Network" "ageing" "I", Cond.fieldLink RX0 15 "LinkEstablisher$Network" "noise" "I", Cond.fieldLink RX0 58 "LinkEstablisher$Network" "wordsSent" "I", Cond.fieldLink RX0 61 "LinkEstablisher$Network" "wordsDecoded" "I", Cond.fieldLink RX0 64 "LinkEstablisher$Network" "callAttempts" "I", Cond.fieldLink RX0 18 "LinkEstablisher$Network" "callChannel" "I", Cond.fieldLink RX0 21 "LinkEstablisher$Network" "wordUnanimous" "I", Cond.fieldLink RX0 24 "LinkEstablisher$Network" "wordVoted" "I", Cond.fieldLink RX0 27 "LinkEstablisher$Network" "scanSets" "[I", Cond.methodLink RX0 67 arraycopyName, Cond.native arraycopyName, Cond.static arraycopyName, Cond.initialized "java/lang/System", Cond.fieldLink RX0 31 "LinkEstablisher$Network" "linkSets" "[I", Cond.fieldLink RX0 34 "LinkEstablisher$Network" "linkChannels" "[I", Cond.fieldLink RX0 37 "LinkEstablisher$Network" "qualities" "[I", Cond.fieldLink RX0 40 "LinkEstablisher$Network" "scores" "[I", Cond.fieldLink RX0 43 "LinkEstablisher$Network" "scoreTimes" "[I"]
def wsX1_setScan : List Cond := .code yX1_setScan cX1_setScan 4 (some .int) :: ((wsX1_setScan_r1 ++ wsX1_setScan_r2) ++ wsX10 ++ wsX00)
def wsX1_isPair : List Cond := .code yX1_isPair cX1_isPair 2 (some .boolean) :: ([.methodLink RX1 20 yX1_isStation, .static yX1_isStation, .initialized RX1, .code yX1_isStation cX1_isStation 1 (some .boolean)])
def wsX1_isChannel : List Cond := .code yX1_isChannel cX1_isChannel 1 (some .boolean) :: ([])
def wsX1_isCell : List Cond := .code yX1_isCell cX1_isCell 3 (some .boolean) :: ([.methodLink RX1 69 yX1_isPair, .static yX1_isPair, .initialized RX1, .code yX1_isPair cX1_isPair 2 (some .boolean), .methodLink RX1 20 yX1_isStation, .static yX1_isStation, .code yX1_isStation cX1_isStation 1 (some .boolean), .methodLink RX1 56 yX1_isChannel, .static yX1_isChannel, .code yX1_isChannel cX1_isChannel 1 (some .boolean)])
def wsX1_setQuality_r1 : List Cond := [Cond.fieldLink RX1 12 "LinkEstablisher" "network" "LLinkEstablisher$Network;", Cond.fieldLink RX1 39 "LinkEstablisher$Network" "qualities" "[I", Cond.methodLink RX1 35 yX1_isCell, Cond.static yX1_isCell, Cond.initialized RX1, Cond.code yX1_isCell cX1_isCell 3 (some .boolean), Cond.methodLink RX1 69 yX1_isPair, Cond.static yX1_isPair, Cond.code yX1_isPair cX1_isPair 2 (some .boolean), Cond.methodLink RX1 20 yX1_isStation, Cond.static yX1_isStation, Cond.code yX1_isStation cX1_isStation 1 (some .boolean), Cond.methodLink RX1 56 yX1_isChannel, Cond.static yX1_isChannel, Cond.code yX1_isChannel cX1_isChannel 1 (some .boolean), Cond.methodLink RX1 24 yX1_countInvalid, Cond.instanceMethod yX1_countInvalid, Cond.selects RX1 yX1_countInvalid yX1_countInvalid, Cond.code yX1_countInvalid cX1_countInvalid 1 (some .int), Cond.fieldLink RX1 138 "LinkEstablisher" "invalidCalls" "I", Cond.methodLink RX1 28 yX1_saveState, Cond.instanceMethod yX1_saveState, Cond.selects RX1 yX1_saveState yX1_saveState, Cond.code yX1_saveState cX1_saveState 1 none]
def wsX1_setQuality_r2 : List Cond := [Cond.fieldLink RX1 16 "LinkEstablisher" "savedStates" "[LLinkEstablisher$Network;", Cond.fieldLink RX1 131 "LinkEstablisher" "nextSaved" "I", Cond.fieldLink RX1 128 "LinkEstablisher" "savedCount" "I", Cond.methodLink RX1 160 Lib.Math.min.name, Cond.static Lib.Math.min.name, Cond.initialized "java/lang/Math", Cond.code Lib.Math.min.name Lib.Math.min.code 2 (some .int), Cond.methodLink RX1 134 yX0_copyFrom, Cond.instanceMethod yX0_copyFrom, Cond.selects RX0 yX0_copyFrom yX0_copyFrom, Cond.initialized RX0, Cond.code yX0_copyFrom cX0_copyFrom 2 none, Cond.fieldLink RX0 55 "LinkEstablisher$Network" "now" "I", Cond.fieldLink RX0 9 "LinkEstablisher$Network" "ageing" "I", Cond.fieldLink RX0 15 "LinkEstablisher$Network" "noise" "I", Cond.fieldLink RX0 58 "LinkEstablisher$Network" "wordsSent" "I", Cond.fieldLink RX0 61 "LinkEstablisher$Network" "wordsDecoded" "I", Cond.fieldLink RX0 64 "LinkEstablisher$Network" "callAttempts" "I", Cond.fieldLink RX0 18 "LinkEstablisher$Network" "callChannel" "I", Cond.fieldLink RX0 21 "LinkEstablisher$Network" "wordUnanimous" "I", Cond.fieldLink RX0 24 "LinkEstablisher$Network" "wordVoted" "I", Cond.fieldLink RX0 27 "LinkEstablisher$Network" "scanSets" "[I", Cond.methodLink RX0 67 arraycopyName, Cond.native arraycopyName]
def wsX1_setQuality_r3 : List Cond := [Cond.static arraycopyName, Cond.initialized "java/lang/System", Cond.fieldLink RX0 31 "LinkEstablisher$Network" "linkSets" "[I", Cond.fieldLink RX0 34 "LinkEstablisher$Network" "linkChannels" "[I", Cond.fieldLink RX0 37 "LinkEstablisher$Network" "qualities" "[I", Cond.fieldLink RX0 40 "LinkEstablisher$Network" "scores" "[I", Cond.fieldLink RX0 43 "LinkEstablisher$Network" "scoreTimes" "[I", Cond.methodLink RX1 42 yX1_cell, Cond.static yX1_cell, Cond.code yX1_cell cX1_cell 3 (some .int)]
def wsX1_setQuality : List Cond := .code yX1_setQuality cX1_setQuality 6 (some .int) :: ((wsX1_setQuality_r1 ++ (wsX1_setQuality_r2 ++ wsX1_setQuality_r3)) ++ wsX10 ++ wsX00)
def wsX1_setAgeing_r1 : List Cond := [Cond.fieldLink RX1 12 "LinkEstablisher" "network" "LLinkEstablisher$Network;", Cond.fieldLink RX1 46 "LinkEstablisher$Network" "ageing" "I", Cond.methodLink RX1 24 yX1_countInvalid, Cond.instanceMethod yX1_countInvalid, Cond.selects RX1 yX1_countInvalid yX1_countInvalid, Cond.initialized RX1, Cond.code yX1_countInvalid cX1_countInvalid 1 (some .int), Cond.fieldLink RX1 138 "LinkEstablisher" "invalidCalls" "I", Cond.methodLink RX1 28 yX1_saveState, Cond.instanceMethod yX1_saveState, Cond.selects RX1 yX1_saveState yX1_saveState, Cond.code yX1_saveState cX1_saveState 1 none, Cond.fieldLink RX1 16 "LinkEstablisher" "savedStates" "[LLinkEstablisher$Network;", Cond.fieldLink RX1 131 "LinkEstablisher" "nextSaved" "I", Cond.fieldLink RX1 128 "LinkEstablisher" "savedCount" "I", Cond.methodLink RX1 160 Lib.Math.min.name, Cond.static Lib.Math.min.name, Cond.initialized "java/lang/Math", Cond.code Lib.Math.min.name Lib.Math.min.code 2 (some .int), Cond.methodLink RX1 134 yX0_copyFrom, Cond.instanceMethod yX0_copyFrom, Cond.selects RX0 yX0_copyFrom yX0_copyFrom, Cond.initialized RX0, Cond.code yX0_copyFrom cX0_copyFrom 2 none]
def wsX1_setAgeing_r2 : List Cond := [Cond.fieldLink RX0 55 "LinkEstablisher$Network" "now" "I", Cond.fieldLink RX0 9 "LinkEstablisher$Network" "ageing" "I", Cond.fieldLink RX0 15 "LinkEstablisher$Network" "noise" "I", Cond.fieldLink RX0 58 "LinkEstablisher$Network" "wordsSent" "I", Cond.fieldLink RX0 61 "LinkEstablisher$Network" "wordsDecoded" "I", Cond.fieldLink RX0 64 "LinkEstablisher$Network" "callAttempts" "I", Cond.fieldLink RX0 18 "LinkEstablisher$Network" "callChannel" "I", Cond.fieldLink RX0 21 "LinkEstablisher$Network" "wordUnanimous" "I", Cond.fieldLink RX0 24 "LinkEstablisher$Network" "wordVoted" "I", Cond.fieldLink RX0 27 "LinkEstablisher$Network" "scanSets" "[I", Cond.methodLink RX0 67 arraycopyName, Cond.native arraycopyName, Cond.static arraycopyName, Cond.initialized "java/lang/System", Cond.fieldLink RX0 31 "LinkEstablisher$Network" "linkSets" "[I", Cond.fieldLink RX0 34 "LinkEstablisher$Network" "linkChannels" "[I", Cond.fieldLink RX0 37 "LinkEstablisher$Network" "qualities" "[I", Cond.fieldLink RX0 40 "LinkEstablisher$Network" "scores" "[I", Cond.fieldLink RX0 43 "LinkEstablisher$Network" "scoreTimes" "[I"]
def wsX1_setAgeing : List Cond := .code yX1_setAgeing cX1_setAgeing 3 (some .int) :: ((wsX1_setAgeing_r1 ++ wsX1_setAgeing_r2) ++ wsX10 ++ wsX00)
def wsX1_setNoise_r1 : List Cond := [Cond.fieldLink RX1 12 "LinkEstablisher" "network" "LLinkEstablisher$Network;", Cond.fieldLink RX1 50 "LinkEstablisher$Network" "noise" "I", Cond.fieldLink RX1 53 "LinkEstablisher$Network" "now" "I", Cond.methodLink RX1 24 yX1_countInvalid, Cond.instanceMethod yX1_countInvalid, Cond.selects RX1 yX1_countInvalid yX1_countInvalid, Cond.initialized RX1, Cond.code yX1_countInvalid cX1_countInvalid 1 (some .int), Cond.fieldLink RX1 138 "LinkEstablisher" "invalidCalls" "I", Cond.methodLink RX1 28 yX1_saveState, Cond.instanceMethod yX1_saveState, Cond.selects RX1 yX1_saveState yX1_saveState, Cond.code yX1_saveState cX1_saveState 1 none, Cond.fieldLink RX1 16 "LinkEstablisher" "savedStates" "[LLinkEstablisher$Network;", Cond.fieldLink RX1 131 "LinkEstablisher" "nextSaved" "I", Cond.fieldLink RX1 128 "LinkEstablisher" "savedCount" "I", Cond.methodLink RX1 160 Lib.Math.min.name, Cond.static Lib.Math.min.name, Cond.initialized "java/lang/Math", Cond.code Lib.Math.min.name Lib.Math.min.code 2 (some .int), Cond.methodLink RX1 134 yX0_copyFrom, Cond.instanceMethod yX0_copyFrom, Cond.selects RX0 yX0_copyFrom yX0_copyFrom, Cond.initialized RX0]
def wsX1_setNoise_r2 : List Cond := [Cond.code yX0_copyFrom cX0_copyFrom 2 none, Cond.fieldLink RX0 55 "LinkEstablisher$Network" "now" "I", Cond.fieldLink RX0 9 "LinkEstablisher$Network" "ageing" "I", Cond.fieldLink RX0 15 "LinkEstablisher$Network" "noise" "I", Cond.fieldLink RX0 58 "LinkEstablisher$Network" "wordsSent" "I", Cond.fieldLink RX0 61 "LinkEstablisher$Network" "wordsDecoded" "I", Cond.fieldLink RX0 64 "LinkEstablisher$Network" "callAttempts" "I", Cond.fieldLink RX0 18 "LinkEstablisher$Network" "callChannel" "I", Cond.fieldLink RX0 21 "LinkEstablisher$Network" "wordUnanimous" "I", Cond.fieldLink RX0 24 "LinkEstablisher$Network" "wordVoted" "I", Cond.fieldLink RX0 27 "LinkEstablisher$Network" "scanSets" "[I", Cond.methodLink RX0 67 arraycopyName, Cond.native arraycopyName, Cond.static arraycopyName, Cond.initialized "java/lang/System", Cond.fieldLink RX0 31 "LinkEstablisher$Network" "linkSets" "[I", Cond.fieldLink RX0 34 "LinkEstablisher$Network" "linkChannels" "[I", Cond.fieldLink RX0 37 "LinkEstablisher$Network" "qualities" "[I", Cond.fieldLink RX0 40 "LinkEstablisher$Network" "scores" "[I", Cond.fieldLink RX0 43 "LinkEstablisher$Network" "scoreTimes" "[I"]
def wsX1_setNoise : List Cond := .code yX1_setNoise cX1_setNoise 2 (some .int) :: ((wsX1_setNoise_r1 ++ wsX1_setNoise_r2) ++ wsX10 ++ wsX00)
def wsX1_pass_r1 : List Cond := [Cond.fieldLink RX1 12 "LinkEstablisher" "network" "LLinkEstablisher$Network;", Cond.fieldLink RX1 53 "LinkEstablisher$Network" "now" "I", Cond.methodLink RX1 24 yX1_countInvalid, Cond.instanceMethod yX1_countInvalid, Cond.selects RX1 yX1_countInvalid yX1_countInvalid, Cond.initialized RX1, Cond.code yX1_countInvalid cX1_countInvalid 1 (some .int), Cond.fieldLink RX1 138 "LinkEstablisher" "invalidCalls" "I", Cond.methodLink RX1 28 yX1_saveState, Cond.instanceMethod yX1_saveState, Cond.selects RX1 yX1_saveState yX1_saveState, Cond.code yX1_saveState cX1_saveState 1 none, Cond.fieldLink RX1 16 "LinkEstablisher" "savedStates" "[LLinkEstablisher$Network;", Cond.fieldLink RX1 131 "LinkEstablisher" "nextSaved" "I", Cond.fieldLink RX1 128 "LinkEstablisher" "savedCount" "I", Cond.methodLink RX1 160 Lib.Math.min.name, Cond.static Lib.Math.min.name, Cond.initialized "java/lang/Math", Cond.code Lib.Math.min.name Lib.Math.min.code 2 (some .int), Cond.methodLink RX1 134 yX0_copyFrom, Cond.instanceMethod yX0_copyFrom, Cond.selects RX0 yX0_copyFrom yX0_copyFrom, Cond.initialized RX0, Cond.code yX0_copyFrom cX0_copyFrom 2 none]
def wsX1_pass_r2 : List Cond := [Cond.fieldLink RX0 55 "LinkEstablisher$Network" "now" "I", Cond.fieldLink RX0 9 "LinkEstablisher$Network" "ageing" "I", Cond.fieldLink RX0 15 "LinkEstablisher$Network" "noise" "I", Cond.fieldLink RX0 58 "LinkEstablisher$Network" "wordsSent" "I", Cond.fieldLink RX0 61 "LinkEstablisher$Network" "wordsDecoded" "I", Cond.fieldLink RX0 64 "LinkEstablisher$Network" "callAttempts" "I", Cond.fieldLink RX0 18 "LinkEstablisher$Network" "callChannel" "I", Cond.fieldLink RX0 21 "LinkEstablisher$Network" "wordUnanimous" "I", Cond.fieldLink RX0 24 "LinkEstablisher$Network" "wordVoted" "I", Cond.fieldLink RX0 27 "LinkEstablisher$Network" "scanSets" "[I", Cond.methodLink RX0 67 arraycopyName, Cond.native arraycopyName, Cond.static arraycopyName, Cond.initialized "java/lang/System", Cond.fieldLink RX0 31 "LinkEstablisher$Network" "linkSets" "[I", Cond.fieldLink RX0 34 "LinkEstablisher$Network" "linkChannels" "[I", Cond.fieldLink RX0 37 "LinkEstablisher$Network" "qualities" "[I", Cond.fieldLink RX0 40 "LinkEstablisher$Network" "scores" "[I", Cond.fieldLink RX0 43 "LinkEstablisher$Network" "scoreTimes" "[I"]
def wsX1_pass : List Cond := .code yX1_pass cX1_pass 2 (some .int) :: ((wsX1_pass_r1 ++ wsX1_pass_r2) ++ wsX10 ++ wsX00)
def wsX1_countRejected : List Cond := .code yX1_countRejected cX1_countRejected 1 (some .int) :: ([.fieldLink RX1 141 "LinkEstablisher" "rejectedCalls" "I"] ++ wsX10)
def wsX1_sound_r1 : List Cond := [Cond.fieldLink RX1 12 "LinkEstablisher" "network" "LLinkEstablisher$Network;", Cond.methodLink RX1 20 yX1_isStation, Cond.static yX1_isStation, Cond.initialized RX1, Cond.code yX1_isStation cX1_isStation 1 (some .boolean), Cond.methodLink RX1 56 yX1_isChannel, Cond.static yX1_isChannel, Cond.code yX1_isChannel cX1_isChannel 1 (some .boolean), Cond.methodLink RX1 24 yX1_countInvalid, Cond.instanceMethod yX1_countInvalid, Cond.selects RX1 yX1_countInvalid yX1_countInvalid, Cond.code yX1_countInvalid cX1_countInvalid 1 (some .int), Cond.fieldLink RX1 138 "LinkEstablisher" "invalidCalls" "I", Cond.methodLink RX1 59 yX0_isLinked, Cond.instanceMethod yX0_isLinked, Cond.selects RX0 yX0_isLinked yX0_isLinked, Cond.initialized RX0, Cond.code yX0_isLinked cX0_isLinked 2 (some .boolean), Cond.fieldLink RX0 31 "LinkEstablisher$Network" "linkSets" "[I", Cond.methodLink RX1 62 yX1_countRejected, Cond.instanceMethod yX1_countRejected, Cond.selects RX1 yX1_countRejected yX1_countRejected, Cond.code yX1_countRejected cX1_countRejected 1 (some .int), Cond.fieldLink RX1 141 "LinkEstablisher" "rejectedCalls" "I"]
def wsX1_sound_r2 : List Cond := [Cond.methodLink RX1 28 yX1_saveState, Cond.instanceMethod yX1_saveState, Cond.selects RX1 yX1_saveState yX1_saveState, Cond.code yX1_saveState cX1_saveState 1 none, Cond.fieldLink RX1 16 "LinkEstablisher" "savedStates" "[LLinkEstablisher$Network;", Cond.fieldLink RX1 131 "LinkEstablisher" "nextSaved" "I", Cond.fieldLink RX1 128 "LinkEstablisher" "savedCount" "I", Cond.methodLink RX1 160 Lib.Math.min.name, Cond.static Lib.Math.min.name, Cond.initialized "java/lang/Math", Cond.code Lib.Math.min.name Lib.Math.min.code 2 (some .int), Cond.methodLink RX1 134 yX0_copyFrom, Cond.instanceMethod yX0_copyFrom, Cond.selects RX0 yX0_copyFrom yX0_copyFrom, Cond.code yX0_copyFrom cX0_copyFrom 2 none, Cond.fieldLink RX0 55 "LinkEstablisher$Network" "now" "I", Cond.fieldLink RX0 9 "LinkEstablisher$Network" "ageing" "I", Cond.fieldLink RX0 15 "LinkEstablisher$Network" "noise" "I", Cond.fieldLink RX0 58 "LinkEstablisher$Network" "wordsSent" "I", Cond.fieldLink RX0 61 "LinkEstablisher$Network" "wordsDecoded" "I", Cond.fieldLink RX0 64 "LinkEstablisher$Network" "callAttempts" "I", Cond.fieldLink RX0 18 "LinkEstablisher$Network" "callChannel" "I", Cond.fieldLink RX0 21 "LinkEstablisher$Network" "wordUnanimous" "I", Cond.fieldLink RX0 24 "LinkEstablisher$Network" "wordVoted" "I"]
def wsX1_sound_r3 : List Cond := [Cond.fieldLink RX0 27 "LinkEstablisher$Network" "scanSets" "[I", Cond.methodLink RX0 67 arraycopyName, Cond.native arraycopyName, Cond.static arraycopyName, Cond.initialized "java/lang/System", Cond.fieldLink RX0 34 "LinkEstablisher$Network" "linkChannels" "[I", Cond.fieldLink RX0 37 "LinkEstablisher$Network" "qualities" "[I", Cond.fieldLink RX0 40 "LinkEstablisher$Network" "scores" "[I", Cond.fieldLink RX0 43 "LinkEstablisher$Network" "scoreTimes" "[I", Cond.methodLink RX1 65 yX0_emitSounding, Cond.instanceMethod yX0_emitSounding, Cond.selects RX0 yX0_emitSounding yX0_emitSounding, Cond.code yX0_emitSounding cX0_emitSounding 5 (some .int), Cond.methodLink RX0 129 yX0_longestScan, Cond.instanceMethod yX0_longestScan, Cond.selects RX0 yX0_longestScan yX0_longestScan, Cond.code yX0_longestScan cX0_longestScan 4 (some .int), Cond.methodLink RX0 93 Lib.Math.max.name, Cond.static Lib.Math.max.name, Cond.code Lib.Math.max.name Lib.Math.max.code 2 (some .int), Cond.static yX1_contains, Cond.code yX1_contains cX1_contains 2 (some .boolean), Cond.methodLink RX0 73 yJ6_bitCount_0f7a4, Cond.static yJ6_bitCount_0f7a4]
def wsX1_sound_r4 : List Cond := [Cond.initialized RJ6, Cond.code yJ6_bitCount_0f7a4 cJ6_bitCount_0f7a4 1 (some .int), Cond.constant RJ6 265 (1431655765), Cond.constant RJ6 266 (858993459), Cond.constant RJ6 267 (252645135), Cond.methodLink RX0 132 yX0_hears, Cond.instanceMethod yX0_hears, Cond.selects RX0 yX0_hears yX0_hears, Cond.code yX0_hears cX0_hears 3 (some .boolean), Cond.methodLink RX0 79 yX0_isLinked, Cond.methodLink RX0 135 yX0_transmit, Cond.instanceMethod yX0_transmit, Cond.selects RX0 yX0_transmit yX0_transmit, Cond.code yX0_transmit cX0_transmit 11 (some .boolean), Cond.constant RX0 98 (65536), Cond.static yX1_cell, Cond.code yX1_cell cX1_cell 3 (some .int), Cond.methodLink RX0 107 yX0_receiveCopy, Cond.instanceMethod yX0_receiveCopy, Cond.selects RX0 yX0_receiveCopy yX0_receiveCopy, Cond.code yX0_receiveCopy cX0_receiveCopy 5 (some .int), Cond.methodLink RX0 99 yX0_drawNoise, Cond.instanceMethod yX0_drawNoise, Cond.selects RX0 yX0_drawNoise yX0_drawNoise]
def wsX1_sound_r5 : List Cond := [Cond.code yX0_drawNoise cX0_drawNoise 1 (some .int), Cond.constant RX0 96 (1103515245), Cond.constant RX0 97 (2147483647), Cond.static yX1_majority, Cond.code yX1_majority cX1_majority 3 (some .int)]
def wsX1_sound : List Cond := .code yX1_sound cX1_sound 3 (some .int) :: ((wsX1_sound_r1 ++ (wsX1_sound_r2 ++ (wsX1_sound_r3 ++ (wsX1_sound_r4 ++ wsX1_sound_r5)))) ++ wsX10 ++ wsX00)
def wsX1_call_r1 : List Cond := [Cond.fieldLink RX1 12 "LinkEstablisher" "network" "LLinkEstablisher$Network;", Cond.methodLink RX1 69 yX1_isPair, Cond.static yX1_isPair, Cond.initialized RX1, Cond.code yX1_isPair cX1_isPair 2 (some .boolean), Cond.methodLink RX1 20 yX1_isStation, Cond.static yX1_isStation, Cond.code yX1_isStation cX1_isStation 1 (some .boolean), Cond.methodLink RX1 24 yX1_countInvalid, Cond.instanceMethod yX1_countInvalid, Cond.selects RX1 yX1_countInvalid yX1_countInvalid, Cond.code yX1_countInvalid cX1_countInvalid 1 (some .int), Cond.fieldLink RX1 138 "LinkEstablisher" "invalidCalls" "I", Cond.methodLink RX1 59 yX0_isLinked, Cond.instanceMethod yX0_isLinked, Cond.selects RX0 yX0_isLinked yX0_isLinked, Cond.initialized RX0, Cond.code yX0_isLinked cX0_isLinked 2 (some .boolean), Cond.fieldLink RX0 31 "LinkEstablisher$Network" "linkSets" "[I", Cond.methodLink RX1 62 yX1_countRejected, Cond.instanceMethod yX1_countRejected, Cond.selects RX1 yX1_countRejected yX1_countRejected, Cond.code yX1_countRejected cX1_countRejected 1 (some .int), Cond.fieldLink RX1 141 "LinkEstablisher" "rejectedCalls" "I"]
def wsX1_call_r2 : List Cond := [Cond.methodLink RX1 28 yX1_saveState, Cond.instanceMethod yX1_saveState, Cond.selects RX1 yX1_saveState yX1_saveState, Cond.code yX1_saveState cX1_saveState 1 none, Cond.fieldLink RX1 16 "LinkEstablisher" "savedStates" "[LLinkEstablisher$Network;", Cond.fieldLink RX1 131 "LinkEstablisher" "nextSaved" "I", Cond.fieldLink RX1 128 "LinkEstablisher" "savedCount" "I", Cond.methodLink RX1 160 Lib.Math.min.name, Cond.static Lib.Math.min.name, Cond.initialized "java/lang/Math", Cond.code Lib.Math.min.name Lib.Math.min.code 2 (some .int), Cond.methodLink RX1 134 yX0_copyFrom, Cond.instanceMethod yX0_copyFrom, Cond.selects RX0 yX0_copyFrom yX0_copyFrom, Cond.code yX0_copyFrom cX0_copyFrom 2 none, Cond.fieldLink RX0 55 "LinkEstablisher$Network" "now" "I", Cond.fieldLink RX0 9 "LinkEstablisher$Network" "ageing" "I", Cond.fieldLink RX0 15 "LinkEstablisher$Network" "noise" "I", Cond.fieldLink RX0 58 "LinkEstablisher$Network" "wordsSent" "I", Cond.fieldLink RX0 61 "LinkEstablisher$Network" "wordsDecoded" "I", Cond.fieldLink RX0 64 "LinkEstablisher$Network" "callAttempts" "I", Cond.fieldLink RX0 18 "LinkEstablisher$Network" "callChannel" "I", Cond.fieldLink RX0 21 "LinkEstablisher$Network" "wordUnanimous" "I", Cond.fieldLink RX0 24 "LinkEstablisher$Network" "wordVoted" "I"]
def wsX1_call_r3 : List Cond := [Cond.fieldLink RX0 27 "LinkEstablisher$Network" "scanSets" "[I", Cond.methodLink RX0 67 arraycopyName, Cond.native arraycopyName, Cond.static arraycopyName, Cond.initialized "java/lang/System", Cond.fieldLink RX0 34 "LinkEstablisher$Network" "linkChannels" "[I", Cond.fieldLink RX0 37 "LinkEstablisher$Network" "qualities" "[I", Cond.fieldLink RX0 40 "LinkEstablisher$Network" "scores" "[I", Cond.fieldLink RX0 43 "LinkEstablisher$Network" "scoreTimes" "[I", Cond.methodLink RX1 73 yX0_callOne, Cond.instanceMethod yX0_callOne, Cond.selects RX0 yX0_callOne yX0_callOne, Cond.code yX0_callOne cX0_callOne 6 (some .int), Cond.methodLink RX0 122 yX0_rankChannels, Cond.instanceMethod yX0_rankChannels, Cond.selects RX0 yX0_rankChannels yX0_rankChannels, Cond.code yX0_rankChannels cX0_rankChannels 4 none, Cond.fieldLink RX0 46 "LinkEstablisher$Network" "channelRanks" "[I", Cond.methodLink RX0 119 yX0_netScore, Cond.instanceMethod yX0_netScore, Cond.selects RX0 yX0_netScore yX0_netScore, Cond.code yX0_netScore cX0_netScore 6 (some .int), Cond.methodLink RX0 116 Lib.Math.min.name, Cond.static yX1_contains]
def wsX1_call_r4 : List Cond := [Cond.code yX1_contains cX1_contains 2 (some .boolean), Cond.methodLink RX0 113 yX0_agedScore, Cond.instanceMethod yX0_agedScore, Cond.selects RX0 yX0_agedScore yX0_agedScore, Cond.code yX0_agedScore cX0_agedScore 6 (some .int), Cond.methodLink RX0 93 Lib.Math.max.name, Cond.static Lib.Math.max.name, Cond.code Lib.Math.max.name Lib.Math.max.code 2 (some .int), Cond.static yX1_cell, Cond.code yX1_cell cX1_cell 3 (some .int), Cond.methodLink RX0 126 yX0_firstRanked, Cond.instanceMethod yX0_firstRanked, Cond.selects RX0 yX0_firstRanked yX0_firstRanked, Cond.code yX0_firstRanked cX0_firstRanked 4 (some .int), Cond.methodLink RX0 139 yX0_shakeHands, Cond.instanceMethod yX0_shakeHands, Cond.selects RX0 yX0_shakeHands yX0_shakeHands, Cond.code yX0_shakeHands cX0_shakeHands 4 (some .boolean), Cond.methodLink RX0 73 yJ6_bitCount_0f7a4, Cond.static yJ6_bitCount_0f7a4, Cond.initialized RJ6, Cond.code yJ6_bitCount_0f7a4 cJ6_bitCount_0f7a4 1 (some .int), Cond.constant RJ6 265 (1431655765), Cond.constant RJ6 266 (858993459)]
def wsX1_call_r5 : List Cond := [Cond.constant RJ6 267 (252645135), Cond.methodLink RX0 132 yX0_hears, Cond.instanceMethod yX0_hears, Cond.selects RX0 yX0_hears yX0_hears, Cond.code yX0_hears cX0_hears 3 (some .boolean), Cond.methodLink RX0 79 yX0_isLinked, Cond.methodLink RX0 135 yX0_transmit, Cond.instanceMethod yX0_transmit, Cond.selects RX0 yX0_transmit yX0_transmit, Cond.code yX0_transmit cX0_transmit 11 (some .boolean), Cond.constant RX0 98 (65536), Cond.methodLink RX0 107 yX0_receiveCopy, Cond.instanceMethod yX0_receiveCopy, Cond.selects RX0 yX0_receiveCopy yX0_receiveCopy, Cond.code yX0_receiveCopy cX0_receiveCopy 5 (some .int), Cond.methodLink RX0 99 yX0_drawNoise, Cond.instanceMethod yX0_drawNoise, Cond.selects RX0 yX0_drawNoise yX0_drawNoise, Cond.code yX0_drawNoise cX0_drawNoise 1 (some .int), Cond.constant RX0 96 (1103515245), Cond.constant RX0 97 (2147483647), Cond.static yX1_majority, Cond.code yX1_majority cX1_majority 3 (some .int), Cond.methodLink RX0 143 yX0_joinLink]
def wsX1_call_r6 : List Cond := [Cond.instanceMethod yX0_joinLink, Cond.selects RX0 yX0_joinLink yX0_joinLink, Cond.code yX0_joinLink cX0_joinLink 4 none]
def wsX1_call : List Cond := .code yX1_call cX1_call 3 (some .int) :: ((wsX1_call_r1 ++ (wsX1_call_r2 ++ (wsX1_call_r3 ++ (wsX1_call_r4 ++ (wsX1_call_r5 ++ wsX1_call_r6))))) ++ wsX10 ++ wsX00)
def wsX1_isNet : List Cond := .code yX1_isNet cX1_isNet 2 (some .boolean) :: ([.methodLink RX1 20 yX1_isStation, .static yX1_isStation, .initialized RX1, .code yX1_isStation cX1_isStation 1 (some .boolean), .methodLink RX1 166 yX1_contains, .static yX1_contains, .code yX1_contains cX1_contains 2 (some .boolean)])
def wsX1_netCall_r1 : List Cond := [Cond.fieldLink RX1 12 "LinkEstablisher" "network" "LLinkEstablisher$Network;", Cond.methodLink RX1 76 yX1_isNet, Cond.static yX1_isNet, Cond.initialized RX1, Cond.code yX1_isNet cX1_isNet 2 (some .boolean), Cond.methodLink RX1 20 yX1_isStation, Cond.static yX1_isStation, Cond.code yX1_isStation cX1_isStation 1 (some .boolean), Cond.methodLink RX1 166 yX1_contains, Cond.static yX1_contains, Cond.code yX1_contains cX1_contains 2 (some .boolean), Cond.methodLink RX1 24 yX1_countInvalid, Cond.instanceMethod yX1_countInvalid, Cond.selects RX1 yX1_countInvalid yX1_countInvalid, Cond.code yX1_countInvalid cX1_countInvalid 1 (some .int), Cond.fieldLink RX1 138 "LinkEstablisher" "invalidCalls" "I", Cond.methodLink RX1 59 yX0_isLinked, Cond.instanceMethod yX0_isLinked, Cond.selects RX0 yX0_isLinked yX0_isLinked, Cond.initialized RX0, Cond.code yX0_isLinked cX0_isLinked 2 (some .boolean), Cond.fieldLink RX0 31 "LinkEstablisher$Network" "linkSets" "[I", Cond.methodLink RX1 62 yX1_countRejected, Cond.instanceMethod yX1_countRejected]
def wsX1_netCall_r2 : List Cond := [Cond.selects RX1 yX1_countRejected yX1_countRejected, Cond.code yX1_countRejected cX1_countRejected 1 (some .int), Cond.fieldLink RX1 141 "LinkEstablisher" "rejectedCalls" "I", Cond.methodLink RX1 28 yX1_saveState, Cond.instanceMethod yX1_saveState, Cond.selects RX1 yX1_saveState yX1_saveState, Cond.code yX1_saveState cX1_saveState 1 none, Cond.fieldLink RX1 16 "LinkEstablisher" "savedStates" "[LLinkEstablisher$Network;", Cond.fieldLink RX1 131 "LinkEstablisher" "nextSaved" "I", Cond.fieldLink RX1 128 "LinkEstablisher" "savedCount" "I", Cond.methodLink RX1 160 Lib.Math.min.name, Cond.static Lib.Math.min.name, Cond.initialized "java/lang/Math", Cond.code Lib.Math.min.name Lib.Math.min.code 2 (some .int), Cond.methodLink RX1 134 yX0_copyFrom, Cond.instanceMethod yX0_copyFrom, Cond.selects RX0 yX0_copyFrom yX0_copyFrom, Cond.code yX0_copyFrom cX0_copyFrom 2 none, Cond.fieldLink RX0 55 "LinkEstablisher$Network" "now" "I", Cond.fieldLink RX0 9 "LinkEstablisher$Network" "ageing" "I", Cond.fieldLink RX0 15 "LinkEstablisher$Network" "noise" "I", Cond.fieldLink RX0 58 "LinkEstablisher$Network" "wordsSent" "I", Cond.fieldLink RX0 61 "LinkEstablisher$Network" "wordsDecoded" "I", Cond.fieldLink RX0 64 "LinkEstablisher$Network" "callAttempts" "I"]
def wsX1_netCall_r3 : List Cond := [Cond.fieldLink RX0 18 "LinkEstablisher$Network" "callChannel" "I", Cond.fieldLink RX0 21 "LinkEstablisher$Network" "wordUnanimous" "I", Cond.fieldLink RX0 24 "LinkEstablisher$Network" "wordVoted" "I", Cond.fieldLink RX0 27 "LinkEstablisher$Network" "scanSets" "[I", Cond.methodLink RX0 67 arraycopyName, Cond.native arraycopyName, Cond.static arraycopyName, Cond.initialized "java/lang/System", Cond.fieldLink RX0 34 "LinkEstablisher$Network" "linkChannels" "[I", Cond.fieldLink RX0 37 "LinkEstablisher$Network" "qualities" "[I", Cond.fieldLink RX0 40 "LinkEstablisher$Network" "scores" "[I", Cond.fieldLink RX0 43 "LinkEstablisher$Network" "scoreTimes" "[I", Cond.methodLink RX1 79 yX0_callMany, Cond.instanceMethod yX0_callMany, Cond.selects RX0 yX0_callMany yX0_callMany, Cond.code yX0_callMany cX0_callMany 7 (some .int), Cond.methodLink RX0 146 yX0_preferredChannel, Cond.instanceMethod yX0_preferredChannel, Cond.selects RX0 yX0_preferredChannel yX0_preferredChannel, Cond.code yX0_preferredChannel cX0_preferredChannel 3 (some .int), Cond.methodLink RX0 122 yX0_rankChannels, Cond.instanceMethod yX0_rankChannels, Cond.selects RX0 yX0_rankChannels yX0_rankChannels, Cond.code yX0_rankChannels cX0_rankChannels 4 none]
def wsX1_netCall_r4 : List Cond := [Cond.fieldLink RX0 46 "LinkEstablisher$Network" "channelRanks" "[I", Cond.methodLink RX0 119 yX0_netScore, Cond.instanceMethod yX0_netScore, Cond.selects RX0 yX0_netScore yX0_netScore, Cond.code yX0_netScore cX0_netScore 6 (some .int), Cond.methodLink RX0 116 Lib.Math.min.name, Cond.methodLink RX0 113 yX0_agedScore, Cond.instanceMethod yX0_agedScore, Cond.selects RX0 yX0_agedScore yX0_agedScore, Cond.code yX0_agedScore cX0_agedScore 6 (some .int), Cond.methodLink RX0 93 Lib.Math.max.name, Cond.static Lib.Math.max.name, Cond.code Lib.Math.max.name Lib.Math.max.code 2 (some .int), Cond.static yX1_cell, Cond.code yX1_cell cX1_cell 3 (some .int), Cond.methodLink RX0 126 yX0_firstRanked, Cond.instanceMethod yX0_firstRanked, Cond.selects RX0 yX0_firstRanked yX0_firstRanked, Cond.code yX0_firstRanked cX0_firstRanked 4 (some .int), Cond.methodLink RX0 129 yX0_longestScan, Cond.instanceMethod yX0_longestScan, Cond.selects RX0 yX0_longestScan yX0_longestScan, Cond.code yX0_longestScan cX0_longestScan 4 (some .int), Cond.methodLink RX0 73 yJ6_bitCount_0f7a4]
def wsX1_netCall_r5 : List Cond := [Cond.static yJ6_bitCount_0f7a4, Cond.initialized RJ6, Cond.code yJ6_bitCount_0f7a4 cJ6_bitCount_0f7a4 1 (some .int), Cond.constant RJ6 265 (1431655765), Cond.constant RJ6 266 (858993459), Cond.constant RJ6 267 (252645135), Cond.methodLink RX0 149 yX0_answersNetCall, Cond.instanceMethod yX0_answersNetCall, Cond.selects RX0 yX0_answersNetCall yX0_answersNetCall, Cond.code yX0_answersNetCall cX0_answersNetCall 4 (some .boolean), Cond.methodLink RX0 132 yX0_hears, Cond.instanceMethod yX0_hears, Cond.selects RX0 yX0_hears yX0_hears, Cond.code yX0_hears cX0_hears 3 (some .boolean), Cond.methodLink RX0 79 yX0_isLinked, Cond.methodLink RX0 135 yX0_transmit, Cond.instanceMethod yX0_transmit, Cond.selects RX0 yX0_transmit yX0_transmit, Cond.code yX0_transmit cX0_transmit 11 (some .boolean), Cond.constant RX0 98 (65536), Cond.methodLink RX0 107 yX0_receiveCopy, Cond.instanceMethod yX0_receiveCopy, Cond.selects RX0 yX0_receiveCopy yX0_receiveCopy, Cond.code yX0_receiveCopy cX0_receiveCopy 5 (some .int)]
def wsX1_netCall_r6 : List Cond := [Cond.methodLink RX0 99 yX0_drawNoise, Cond.instanceMethod yX0_drawNoise, Cond.selects RX0 yX0_drawNoise yX0_drawNoise, Cond.code yX0_drawNoise cX0_drawNoise 1 (some .int), Cond.constant RX0 96 (1103515245), Cond.constant RX0 97 (2147483647), Cond.static yX1_majority, Cond.code yX1_majority cX1_majority 3 (some .int), Cond.methodLink RX0 143 yX0_joinLink, Cond.instanceMethod yX0_joinLink, Cond.selects RX0 yX0_joinLink yX0_joinLink, Cond.code yX0_joinLink cX0_joinLink 4 none]
def wsX1_netCall : List Cond := .code yX1_netCall cX1_netCall 3 (some .int) :: ((wsX1_netCall_r1 ++ (wsX1_netCall_r2 ++ (wsX1_netCall_r3 ++ (wsX1_netCall_r4 ++ (wsX1_netCall_r5 ++ wsX1_netCall_r6))))) ++ wsX10 ++ wsX00)
def wsX1_hangUp_r1 : List Cond := [Cond.fieldLink RX1 12 "LinkEstablisher" "network" "LLinkEstablisher$Network;", Cond.methodLink RX1 20 yX1_isStation, Cond.static yX1_isStation, Cond.initialized RX1, Cond.code yX1_isStation cX1_isStation 1 (some .boolean), Cond.methodLink RX1 24 yX1_countInvalid, Cond.instanceMethod yX1_countInvalid, Cond.selects RX1 yX1_countInvalid yX1_countInvalid, Cond.code yX1_countInvalid cX1_countInvalid 1 (some .int), Cond.fieldLink RX1 138 "LinkEstablisher" "invalidCalls" "I", Cond.methodLink RX1 59 yX0_isLinked, Cond.instanceMethod yX0_isLinked, Cond.selects RX0 yX0_isLinked yX0_isLinked, Cond.initialized RX0, Cond.code yX0_isLinked cX0_isLinked 2 (some .boolean), Cond.fieldLink RX0 31 "LinkEstablisher$Network" "linkSets" "[I", Cond.methodLink RX1 62 yX1_countRejected, Cond.instanceMethod yX1_countRejected, Cond.selects RX1 yX1_countRejected yX1_countRejected, Cond.code yX1_countRejected cX1_countRejected 1 (some .int), Cond.fieldLink RX1 141 "LinkEstablisher" "rejectedCalls" "I", Cond.methodLink RX1 28 yX1_saveState, Cond.instanceMethod yX1_saveState, Cond.selects RX1 yX1_saveState yX1_saveState]
def wsX1_hangUp_r2 : List Cond := [Cond.code yX1_saveState cX1_saveState 1 none, Cond.fieldLink RX1 16 "LinkEstablisher" "savedStates" "[LLinkEstablisher$Network;", Cond.fieldLink RX1 131 "LinkEstablisher" "nextSaved" "I", Cond.fieldLink RX1 128 "LinkEstablisher" "savedCount" "I", Cond.methodLink RX1 160 Lib.Math.min.name, Cond.static Lib.Math.min.name, Cond.initialized "java/lang/Math", Cond.code Lib.Math.min.name Lib.Math.min.code 2 (some .int), Cond.methodLink RX1 134 yX0_copyFrom, Cond.instanceMethod yX0_copyFrom, Cond.selects RX0 yX0_copyFrom yX0_copyFrom, Cond.code yX0_copyFrom cX0_copyFrom 2 none, Cond.fieldLink RX0 55 "LinkEstablisher$Network" "now" "I", Cond.fieldLink RX0 9 "LinkEstablisher$Network" "ageing" "I", Cond.fieldLink RX0 15 "LinkEstablisher$Network" "noise" "I", Cond.fieldLink RX0 58 "LinkEstablisher$Network" "wordsSent" "I", Cond.fieldLink RX0 61 "LinkEstablisher$Network" "wordsDecoded" "I", Cond.fieldLink RX0 64 "LinkEstablisher$Network" "callAttempts" "I", Cond.fieldLink RX0 18 "LinkEstablisher$Network" "callChannel" "I", Cond.fieldLink RX0 21 "LinkEstablisher$Network" "wordUnanimous" "I", Cond.fieldLink RX0 24 "LinkEstablisher$Network" "wordVoted" "I", Cond.fieldLink RX0 27 "LinkEstablisher$Network" "scanSets" "[I", Cond.methodLink RX0 67 arraycopyName, Cond.native arraycopyName]
def wsX1_hangUp_r3 : List Cond := [Cond.static arraycopyName, Cond.initialized "java/lang/System", Cond.fieldLink RX0 34 "LinkEstablisher$Network" "linkChannels" "[I", Cond.fieldLink RX0 37 "LinkEstablisher$Network" "qualities" "[I", Cond.fieldLink RX0 40 "LinkEstablisher$Network" "scores" "[I", Cond.fieldLink RX0 43 "LinkEstablisher$Network" "scoreTimes" "[I", Cond.methodLink RX1 82 yX0_leaveLink, Cond.instanceMethod yX0_leaveLink, Cond.selects RX0 yX0_leaveLink yX0_leaveLink, Cond.code yX0_leaveLink cX0_leaveLink 5 (some .int), Cond.methodLink RX0 73 yJ6_bitCount_0f7a4, Cond.static yJ6_bitCount_0f7a4, Cond.initialized RJ6, Cond.code yJ6_bitCount_0f7a4 cJ6_bitCount_0f7a4 1 (some .int), Cond.constant RJ6 265 (1431655765), Cond.constant RJ6 266 (858993459), Cond.constant RJ6 267 (252645135), Cond.methodLink RX0 152 yX0_dropLink, Cond.instanceMethod yX0_dropLink, Cond.selects RX0 yX0_dropLink yX0_dropLink, Cond.code yX0_dropLink cX0_dropLink 2 none, Cond.static yX1_contains, Cond.code yX1_contains cX1_contains 2 (some .boolean)]
def wsX1_hangUp : List Cond := .code yX1_hangUp cX1_hangUp 2 (some .int) :: ((wsX1_hangUp_r1 ++ (wsX1_hangUp_r2 ++ wsX1_hangUp_r3)) ++ wsX10 ++ wsX00)
def wsX1_attempts : List Cond := .code yX1_attempts cX1_attempts 1 (some .int) :: ([.fieldLink RX1 12 "LinkEstablisher" "network" "LLinkEstablisher$Network;", .fieldLink RX1 86 "LinkEstablisher$Network" "callAttempts" "I"] ++ wsX10 ++ wsX00)
def wsX1_lastChannel : List Cond := .code yX1_lastChannel cX1_lastChannel 1 (some .int) :: ([.fieldLink RX1 12 "LinkEstablisher" "network" "LLinkEstablisher$Network;", .fieldLink RX1 89 "LinkEstablisher$Network" "callChannel" "I"] ++ wsX10 ++ wsX00)
def wsX1_lastUnanimous : List Cond := .code yX1_lastUnanimous cX1_lastUnanimous 1 (some .int) :: ([.fieldLink RX1 12 "LinkEstablisher" "network" "LLinkEstablisher$Network;", .fieldLink RX1 92 "LinkEstablisher$Network" "wordUnanimous" "I"] ++ wsX10 ++ wsX00)
def wsX1_lastVoted : List Cond := .code yX1_lastVoted cX1_lastVoted 1 (some .int) :: ([.fieldLink RX1 12 "LinkEstablisher" "network" "LLinkEstablisher$Network;", .fieldLink RX1 95 "LinkEstablisher$Network" "wordVoted" "I"] ++ wsX10 ++ wsX00)
def wsX1_scan : List Cond := .code yX1_scan cX1_scan 2 (some .int) :: ([.fieldLink RX1 12 "LinkEstablisher" "network" "LLinkEstablisher$Network;", .fieldLink RX1 31 "LinkEstablisher$Network" "scanSets" "[I", .methodLink RX1 20 yX1_isStation, .static yX1_isStation, .initialized RX1, .code yX1_isStation cX1_isStation 1 (some .boolean), .methodLink RX1 24 yX1_countInvalid, .instanceMethod yX1_countInvalid, .selects RX1 yX1_countInvalid yX1_countInvalid, .code yX1_countInvalid cX1_countInvalid 1 (some .int), .fieldLink RX1 138 "LinkEstablisher" "invalidCalls" "I"] ++ wsX10 ++ wsX00)
def wsX1_listening_r1 : List Cond := [Cond.fieldLink RX1 12 "LinkEstablisher" "network" "LLinkEstablisher$Network;", Cond.methodLink RX1 20 yX1_isStation, Cond.static yX1_isStation, Cond.initialized RX1, Cond.code yX1_isStation cX1_isStation 1 (some .boolean), Cond.methodLink RX1 24 yX1_countInvalid, Cond.instanceMethod yX1_countInvalid, Cond.selects RX1 yX1_countInvalid yX1_countInvalid, Cond.code yX1_countInvalid cX1_countInvalid 1 (some .int), Cond.fieldLink RX1 138 "LinkEstablisher" "invalidCalls" "I", Cond.methodLink RX1 98 yX0_scannedChannel, Cond.instanceMethod yX0_scannedChannel, Cond.selects RX0 yX0_scannedChannel yX0_scannedChannel, Cond.initialized RX0, Cond.code yX0_scannedChannel cX0_scannedChannel 5 (some .int), Cond.fieldLink RX0 27 "LinkEstablisher$Network" "scanSets" "[I", Cond.fieldLink RX0 55 "LinkEstablisher$Network" "now" "I", Cond.methodLink RX0 73 yJ6_bitCount_0f7a4, Cond.static yJ6_bitCount_0f7a4, Cond.initialized RJ6, Cond.code yJ6_bitCount_0f7a4 cJ6_bitCount_0f7a4 1 (some .int), Cond.constant RJ6 265 (1431655765), Cond.constant RJ6 266 (858993459), Cond.constant RJ6 267 (252645135)]
def wsX1_listening_r2 : List Cond := [Cond.methodLink RX0 79 yX0_isLinked, Cond.instanceMethod yX0_isLinked, Cond.selects RX0 yX0_isLinked yX0_isLinked, Cond.code yX0_isLinked cX0_isLinked 2 (some .boolean), Cond.fieldLink RX0 31 "LinkEstablisher$Network" "linkSets" "[I", Cond.methodLink RX0 83 yJ9_floorMod_7cf53, Cond.static yJ9_floorMod_7cf53, Cond.initialized RJ9, Cond.code yJ9_floorMod_7cf53 cJ9_floorMod_7cf53 3 (some .int), Cond.static yX1_contains, Cond.code yX1_contains cX1_contains 2 (some .boolean)]
def wsX1_listening : List Cond := .code yX1_listening cX1_listening 2 (some .int) :: ((wsX1_listening_r1 ++ wsX1_listening_r2) ++ wsX10 ++ wsX00)
def wsX1_quality : List Cond := .code yX1_quality cX1_quality 4 (some .int) :: ([.fieldLink RX1 12 "LinkEstablisher" "network" "LLinkEstablisher$Network;", .fieldLink RX1 39 "LinkEstablisher$Network" "qualities" "[I", .methodLink RX1 35 yX1_isCell, .static yX1_isCell, .initialized RX1, .code yX1_isCell cX1_isCell 3 (some .boolean), .methodLink RX1 69 yX1_isPair, .static yX1_isPair, .code yX1_isPair cX1_isPair 2 (some .boolean), .methodLink RX1 20 yX1_isStation, .static yX1_isStation, .code yX1_isStation cX1_isStation 1 (some .boolean), .methodLink RX1 56 yX1_isChannel, .static yX1_isChannel, .code yX1_isChannel cX1_isChannel 1 (some .boolean), .methodLink RX1 24 yX1_countInvalid, .instanceMethod yX1_countInvalid, .selects RX1 yX1_countInvalid yX1_countInvalid, .code yX1_countInvalid cX1_countInvalid 1 (some .int), .fieldLink RX1 138 "LinkEstablisher" "invalidCalls" "I", .methodLink RX1 42 yX1_cell, .static yX1_cell, .code yX1_cell cX1_cell 3 (some .int)] ++ wsX10 ++ wsX00)
def wsX1_score : List Cond := .code yX1_score cX1_score 4 (some .int) :: ([.fieldLink RX1 12 "LinkEstablisher" "network" "LLinkEstablisher$Network;", .fieldLink RX1 101 "LinkEstablisher$Network" "scores" "[I", .methodLink RX1 35 yX1_isCell, .static yX1_isCell, .initialized RX1, .code yX1_isCell cX1_isCell 3 (some .boolean), .methodLink RX1 69 yX1_isPair, .static yX1_isPair, .code yX1_isPair cX1_isPair 2 (some .boolean), .methodLink RX1 20 yX1_isStation, .static yX1_isStation, .code yX1_isStation cX1_isStation 1 (some .boolean), .methodLink RX1 56 yX1_isChannel, .static yX1_isChannel, .code yX1_isChannel cX1_isChannel 1 (some .boolean), .methodLink RX1 24 yX1_countInvalid, .instanceMethod yX1_countInvalid, .selects RX1 yX1_countInvalid yX1_countInvalid, .code yX1_countInvalid cX1_countInvalid 1 (some .int), .fieldLink RX1 138 "LinkEstablisher" "invalidCalls" "I", .methodLink RX1 42 yX1_cell, .static yX1_cell, .code yX1_cell cX1_cell 3 (some .int)] ++ wsX10 ++ wsX00)
def wsX1_effective_r1 : List Cond := [Cond.fieldLink RX1 12 "LinkEstablisher" "network" "LLinkEstablisher$Network;", Cond.methodLink RX1 35 yX1_isCell, Cond.static yX1_isCell, Cond.initialized RX1, Cond.code yX1_isCell cX1_isCell 3 (some .boolean), Cond.methodLink RX1 69 yX1_isPair, Cond.static yX1_isPair, Cond.code yX1_isPair cX1_isPair 2 (some .boolean), Cond.methodLink RX1 20 yX1_isStation, Cond.static yX1_isStation, Cond.code yX1_isStation cX1_isStation 1 (some .boolean), Cond.methodLink RX1 56 yX1_isChannel, Cond.static yX1_isChannel, Cond.code yX1_isChannel cX1_isChannel 1 (some .boolean), Cond.methodLink RX1 24 yX1_countInvalid, Cond.instanceMethod yX1_countInvalid, Cond.selects RX1 yX1_countInvalid yX1_countInvalid, Cond.code yX1_countInvalid cX1_countInvalid 1 (some .int), Cond.fieldLink RX1 138 "LinkEstablisher" "invalidCalls" "I", Cond.methodLink RX1 104 yX0_agedScore, Cond.instanceMethod yX0_agedScore, Cond.selects RX0 yX0_agedScore yX0_agedScore, Cond.initialized RX0, Cond.code yX0_agedScore cX0_agedScore 6 (some .int)]
def wsX1_effective_r2 : List Cond := [Cond.fieldLink RX0 40 "LinkEstablisher$Network" "scores" "[I", Cond.fieldLink RX0 55 "LinkEstablisher$Network" "now" "I", Cond.fieldLink RX0 43 "LinkEstablisher$Network" "scoreTimes" "[I", Cond.fieldLink RX0 9 "LinkEstablisher$Network" "ageing" "I", Cond.methodLink RX0 93 Lib.Math.max.name, Cond.static Lib.Math.max.name, Cond.initialized "java/lang/Math", Cond.code Lib.Math.max.name Lib.Math.max.code 2 (some .int), Cond.static yX1_cell, Cond.code yX1_cell cX1_cell 3 (some .int)]
def wsX1_effective : List Cond := .code yX1_effective cX1_effective 4 (some .int) :: ((wsX1_effective_r1 ++ wsX1_effective_r2) ++ wsX10 ++ wsX00)
def wsX1_bestChannel_r1 : List Cond := [Cond.fieldLink RX1 12 "LinkEstablisher" "network" "LLinkEstablisher$Network;", Cond.methodLink RX1 69 yX1_isPair, Cond.static yX1_isPair, Cond.initialized RX1, Cond.code yX1_isPair cX1_isPair 2 (some .boolean), Cond.methodLink RX1 20 yX1_isStation, Cond.static yX1_isStation, Cond.code yX1_isStation cX1_isStation 1 (some .boolean), Cond.methodLink RX1 24 yX1_countInvalid, Cond.instanceMethod yX1_countInvalid, Cond.selects RX1 yX1_countInvalid yX1_countInvalid, Cond.code yX1_countInvalid cX1_countInvalid 1 (some .int), Cond.fieldLink RX1 138 "LinkEstablisher" "invalidCalls" "I", Cond.methodLink RX1 107 yX0_preferredChannel, Cond.instanceMethod yX0_preferredChannel, Cond.selects RX0 yX0_preferredChannel yX0_preferredChannel, Cond.initialized RX0, Cond.code yX0_preferredChannel cX0_preferredChannel 3 (some .int), Cond.fieldLink RX0 27 "LinkEstablisher$Network" "scanSets" "[I", Cond.methodLink RX0 122 yX0_rankChannels, Cond.instanceMethod yX0_rankChannels, Cond.selects RX0 yX0_rankChannels yX0_rankChannels, Cond.code yX0_rankChannels cX0_rankChannels 4 none, Cond.fieldLink RX0 46 "LinkEstablisher$Network" "channelRanks" "[I"]
def wsX1_bestChannel_r2 : List Cond := [Cond.methodLink RX0 119 yX0_netScore, Cond.instanceMethod yX0_netScore, Cond.selects RX0 yX0_netScore yX0_netScore, Cond.code yX0_netScore cX0_netScore 6 (some .int), Cond.methodLink RX0 116 Lib.Math.min.name, Cond.static Lib.Math.min.name, Cond.initialized "java/lang/Math", Cond.code Lib.Math.min.name Lib.Math.min.code 2 (some .int), Cond.static yX1_contains, Cond.code yX1_contains cX1_contains 2 (some .boolean), Cond.methodLink RX0 113 yX0_agedScore, Cond.instanceMethod yX0_agedScore, Cond.selects RX0 yX0_agedScore yX0_agedScore, Cond.code yX0_agedScore cX0_agedScore 6 (some .int), Cond.fieldLink RX0 40 "LinkEstablisher$Network" "scores" "[I", Cond.fieldLink RX0 55 "LinkEstablisher$Network" "now" "I", Cond.fieldLink RX0 43 "LinkEstablisher$Network" "scoreTimes" "[I", Cond.fieldLink RX0 9 "LinkEstablisher$Network" "ageing" "I", Cond.methodLink RX0 93 Lib.Math.max.name, Cond.static Lib.Math.max.name, Cond.code Lib.Math.max.name Lib.Math.max.code 2 (some .int), Cond.static yX1_cell, Cond.code yX1_cell cX1_cell 3 (some .int), Cond.methodLink RX0 126 yX0_firstRanked]
def wsX1_bestChannel_r3 : List Cond := [Cond.instanceMethod yX0_firstRanked, Cond.selects RX0 yX0_firstRanked yX0_firstRanked, Cond.code yX0_firstRanked cX0_firstRanked 4 (some .int)]
def wsX1_bestChannel : List Cond := .code yX1_bestChannel cX1_bestChannel 3 (some .int) :: ((wsX1_bestChannel_r1 ++ (wsX1_bestChannel_r2 ++ wsX1_bestChannel_r3)) ++ wsX10 ++ wsX00)
def wsX1_netChannel_r1 : List Cond := [Cond.fieldLink RX1 12 "LinkEstablisher" "network" "LLinkEstablisher$Network;", Cond.methodLink RX1 76 yX1_isNet, Cond.static yX1_isNet, Cond.initialized RX1, Cond.code yX1_isNet cX1_isNet 2 (some .boolean), Cond.methodLink RX1 20 yX1_isStation, Cond.static yX1_isStation, Cond.code yX1_isStation cX1_isStation 1 (some .boolean), Cond.methodLink RX1 166 yX1_contains, Cond.static yX1_contains, Cond.code yX1_contains cX1_contains 2 (some .boolean), Cond.methodLink RX1 24 yX1_countInvalid, Cond.instanceMethod yX1_countInvalid, Cond.selects RX1 yX1_countInvalid yX1_countInvalid, Cond.code yX1_countInvalid cX1_countInvalid 1 (some .int), Cond.fieldLink RX1 138 "LinkEstablisher" "invalidCalls" "I", Cond.methodLink RX1 107 yX0_preferredChannel, Cond.instanceMethod yX0_preferredChannel, Cond.selects RX0 yX0_preferredChannel yX0_preferredChannel, Cond.initialized RX0, Cond.code yX0_preferredChannel cX0_preferredChannel 3 (some .int), Cond.fieldLink RX0 27 "LinkEstablisher$Network" "scanSets" "[I", Cond.methodLink RX0 122 yX0_rankChannels, Cond.instanceMethod yX0_rankChannels]
def wsX1_netChannel_r2 : List Cond := [Cond.selects RX0 yX0_rankChannels yX0_rankChannels, Cond.code yX0_rankChannels cX0_rankChannels 4 none, Cond.fieldLink RX0 46 "LinkEstablisher$Network" "channelRanks" "[I", Cond.methodLink RX0 119 yX0_netScore, Cond.instanceMethod yX0_netScore, Cond.selects RX0 yX0_netScore yX0_netScore, Cond.code yX0_netScore cX0_netScore 6 (some .int), Cond.methodLink RX0 116 Lib.Math.min.name, Cond.static Lib.Math.min.name, Cond.initialized "java/lang/Math", Cond.code Lib.Math.min.name Lib.Math.min.code 2 (some .int), Cond.methodLink RX0 113 yX0_agedScore, Cond.instanceMethod yX0_agedScore, Cond.selects RX0 yX0_agedScore yX0_agedScore, Cond.code yX0_agedScore cX0_agedScore 6 (some .int), Cond.fieldLink RX0 40 "LinkEstablisher$Network" "scores" "[I", Cond.fieldLink RX0 55 "LinkEstablisher$Network" "now" "I", Cond.fieldLink RX0 43 "LinkEstablisher$Network" "scoreTimes" "[I", Cond.fieldLink RX0 9 "LinkEstablisher$Network" "ageing" "I", Cond.methodLink RX0 93 Lib.Math.max.name, Cond.static Lib.Math.max.name, Cond.code Lib.Math.max.name Lib.Math.max.code 2 (some .int), Cond.static yX1_cell, Cond.code yX1_cell cX1_cell 3 (some .int)]
def wsX1_netChannel_r3 : List Cond := [Cond.methodLink RX0 126 yX0_firstRanked, Cond.instanceMethod yX0_firstRanked, Cond.selects RX0 yX0_firstRanked yX0_firstRanked, Cond.code yX0_firstRanked cX0_firstRanked 4 (some .int)]
def wsX1_netChannel : List Cond := .code yX1_netChannel cX1_netChannel 3 (some .int) :: ((wsX1_netChannel_r1 ++ (wsX1_netChannel_r2 ++ wsX1_netChannel_r3)) ++ wsX10 ++ wsX00)
def wsX1_link : List Cond := .code yX1_link cX1_link 2 (some .int) :: ([.fieldLink RX1 12 "LinkEstablisher" "network" "LLinkEstablisher$Network;", .fieldLink RX1 110 "LinkEstablisher$Network" "linkSets" "[I", .methodLink RX1 20 yX1_isStation, .static yX1_isStation, .initialized RX1, .code yX1_isStation cX1_isStation 1 (some .boolean), .methodLink RX1 24 yX1_countInvalid, .instanceMethod yX1_countInvalid, .selects RX1 yX1_countInvalid yX1_countInvalid, .code yX1_countInvalid cX1_countInvalid 1 (some .int), .fieldLink RX1 138 "LinkEstablisher" "invalidCalls" "I"] ++ wsX10 ++ wsX00)
def wsX1_linkChannel : List Cond := .code yX1_linkChannel cX1_linkChannel 2 (some .int) :: ([.fieldLink RX1 12 "LinkEstablisher" "network" "LLinkEstablisher$Network;", .fieldLink RX1 113 "LinkEstablisher$Network" "linkChannels" "[I", .methodLink RX1 20 yX1_isStation, .static yX1_isStation, .initialized RX1, .code yX1_isStation cX1_isStation 1 (some .boolean), .methodLink RX1 24 yX1_countInvalid, .instanceMethod yX1_countInvalid, .selects RX1 yX1_countInvalid yX1_countInvalid, .code yX1_countInvalid cX1_countInvalid 1 (some .int), .fieldLink RX1 138 "LinkEstablisher" "invalidCalls" "I"] ++ wsX10 ++ wsX00)
def wsX1_time : List Cond := .code yX1_time cX1_time 1 (some .int) :: ([.fieldLink RX1 12 "LinkEstablisher" "network" "LLinkEstablisher$Network;", .fieldLink RX1 53 "LinkEstablisher$Network" "now" "I"] ++ wsX10 ++ wsX00)
def wsX1_transmitted : List Cond := .code yX1_transmitted cX1_transmitted 1 (some .int) :: ([.fieldLink RX1 12 "LinkEstablisher" "network" "LLinkEstablisher$Network;", .fieldLink RX1 116 "LinkEstablisher$Network" "wordsSent" "I"] ++ wsX10 ++ wsX00)
def wsX1_decoded : List Cond := .code yX1_decoded cX1_decoded 1 (some .int) :: ([.fieldLink RX1 12 "LinkEstablisher" "network" "LLinkEstablisher$Network;", .fieldLink RX1 119 "LinkEstablisher$Network" "wordsDecoded" "I"] ++ wsX10 ++ wsX00)
def wsX1_isWord : List Cond := .code yX1_isWord cX1_isWord 1 (some .boolean) :: ([.constant RX1 165 (16777215)])
def wsX1_vote : List Cond := .code yX1_vote cX1_vote 4 (some .int) :: ([.methodLink RX1 122 yX1_isWord, .static yX1_isWord, .initialized RX1, .code yX1_isWord cX1_isWord 1 (some .boolean), .constant RX1 165 (16777215), .methodLink RX1 24 yX1_countInvalid, .instanceMethod yX1_countInvalid, .selects RX1 yX1_countInvalid yX1_countInvalid, .code yX1_countInvalid cX1_countInvalid 1 (some .int), .fieldLink RX1 138 "LinkEstablisher" "invalidCalls" "I", .methodLink RX1 125 yX1_majority, .static yX1_majority, .code yX1_majority cX1_majority 3 (some .int)] ++ wsX10)
def wsX1_undo_r1 : List Cond := [Cond.fieldLink RX1 128 "LinkEstablisher" "savedCount" "I", Cond.fieldLink RX1 131 "LinkEstablisher" "nextSaved" "I", Cond.fieldLink RX1 12 "LinkEstablisher" "network" "LLinkEstablisher$Network;", Cond.fieldLink RX1 16 "LinkEstablisher" "savedStates" "[LLinkEstablisher$Network;", Cond.methodLink RX1 62 yX1_countRejected, Cond.instanceMethod yX1_countRejected, Cond.selects RX1 yX1_countRejected yX1_countRejected, Cond.initialized RX1, Cond.code yX1_countRejected cX1_countRejected 1 (some .int), Cond.fieldLink RX1 141 "LinkEstablisher" "rejectedCalls" "I", Cond.methodLink RX1 134 yX0_copyFrom, Cond.instanceMethod yX0_copyFrom, Cond.selects RX0 yX0_copyFrom yX0_copyFrom, Cond.initialized RX0, Cond.code yX0_copyFrom cX0_copyFrom 2 none, Cond.fieldLink RX0 55 "LinkEstablisher$Network" "now" "I", Cond.fieldLink RX0 9 "LinkEstablisher$Network" "ageing" "I", Cond.fieldLink RX0 15 "LinkEstablisher$Network" "noise" "I", Cond.fieldLink RX0 58 "LinkEstablisher$Network" "wordsSent" "I", Cond.fieldLink RX0 61 "LinkEstablisher$Network" "wordsDecoded" "I", Cond.fieldLink RX0 64 "LinkEstablisher$Network" "callAttempts" "I", Cond.fieldLink RX0 18 "LinkEstablisher$Network" "callChannel" "I", Cond.fieldLink RX0 21 "LinkEstablisher$Network" "wordUnanimous" "I", Cond.fieldLink RX0 24 "LinkEstablisher$Network" "wordVoted" "I"]
def wsX1_undo_r2 : List Cond := [Cond.fieldLink RX0 27 "LinkEstablisher$Network" "scanSets" "[I", Cond.methodLink RX0 67 arraycopyName, Cond.native arraycopyName, Cond.static arraycopyName, Cond.initialized "java/lang/System", Cond.fieldLink RX0 31 "LinkEstablisher$Network" "linkSets" "[I", Cond.fieldLink RX0 34 "LinkEstablisher$Network" "linkChannels" "[I", Cond.fieldLink RX0 37 "LinkEstablisher$Network" "qualities" "[I", Cond.fieldLink RX0 40 "LinkEstablisher$Network" "scores" "[I", Cond.fieldLink RX0 43 "LinkEstablisher$Network" "scoreTimes" "[I"]
def wsX1_undo : List Cond := .code yX1_undo cX1_undo 1 (some .int) :: ((wsX1_undo_r1 ++ wsX1_undo_r2) ++ wsX10 ++ wsX00)
def wsX1_errorCount : List Cond := .code yX1_errorCount cX1_errorCount 2 (some .int) :: ([.fieldLink RX1 138 "LinkEstablisher" "invalidCalls" "I", .fieldLink RX1 141 "LinkEstablisher" "rejectedCalls" "I", .methodLink RX1 24 yX1_countInvalid, .instanceMethod yX1_countInvalid, .selects RX1 yX1_countInvalid yX1_countInvalid, .initialized RX1, .code yX1_countInvalid cX1_countInvalid 1 (some .int)] ++ wsX10)
def wsX1_digest_r1 : List Cond := [Cond.constantLong RX1 144 (12164), Cond.fieldLink RX1 138 "LinkEstablisher" "invalidCalls" "I", Cond.fieldLink RX1 141 "LinkEstablisher" "rejectedCalls" "I", Cond.fieldLink RX1 128 "LinkEstablisher" "savedCount" "I", Cond.fieldLink RX1 12 "LinkEstablisher" "network" "LLinkEstablisher$Network;", Cond.methodLink RX1 146 yX1_mix, Cond.static yX1_mix, Cond.initialized RX1, Cond.code yX1_mix cX1_mix 4 (some .long), Cond.constantLong RX1 169 (31), Cond.methodLink RX1 150 yX0_mixCounters, Cond.instanceMethod yX0_mixCounters, Cond.selects RX0 yX0_mixCounters yX0_mixCounters, Cond.initialized RX0, Cond.code yX0_mixCounters cX0_mixCounters 5 (some .long), Cond.fieldLink RX0 55 "LinkEstablisher$Network" "now" "I", Cond.fieldLink RX0 9 "LinkEstablisher$Network" "ageing" "I", Cond.fieldLink RX0 15 "LinkEstablisher$Network" "noise" "I", Cond.fieldLink RX0 58 "LinkEstablisher$Network" "wordsSent" "I", Cond.fieldLink RX0 61 "LinkEstablisher$Network" "wordsDecoded" "I", Cond.fieldLink RX0 64 "LinkEstablisher$Network" "callAttempts" "I", Cond.fieldLink RX0 18 "LinkEstablisher$Network" "callChannel" "I", Cond.fieldLink RX0 21 "LinkEstablisher$Network" "wordUnanimous" "I", Cond.fieldLink RX0 24 "LinkEstablisher$Network" "wordVoted" "I"]
def wsX1_digest_r2 : List Cond := [Cond.methodLink RX1 154 yX0_mixStations, Cond.instanceMethod yX0_mixStations, Cond.selects RX0 yX0_mixStations yX0_mixStations, Cond.code yX0_mixStations cX0_mixStations 6 (some .long), Cond.fieldLink RX0 27 "LinkEstablisher$Network" "scanSets" "[I", Cond.fieldLink RX0 31 "LinkEstablisher$Network" "linkSets" "[I", Cond.fieldLink RX0 34 "LinkEstablisher$Network" "linkChannels" "[I", Cond.methodLink RX1 157 yX0_mixScores, Cond.instanceMethod yX0_mixScores, Cond.selects RX0 yX0_mixScores yX0_mixScores, Cond.code yX0_mixScores cX0_mixScores 8 (some .long), Cond.fieldLink RX0 40 "LinkEstablisher$Network" "scores" "[I", Cond.static yX1_cell, Cond.code yX1_cell cX1_cell 3 (some .int), Cond.methodLink RX0 113 yX0_agedScore, Cond.instanceMethod yX0_agedScore, Cond.selects RX0 yX0_agedScore yX0_agedScore, Cond.code yX0_agedScore cX0_agedScore 6 (some .int), Cond.fieldLink RX0 43 "LinkEstablisher$Network" "scoreTimes" "[I", Cond.methodLink RX0 93 Lib.Math.max.name, Cond.static Lib.Math.max.name, Cond.initialized "java/lang/Math", Cond.code Lib.Math.max.name Lib.Math.max.code 2 (some .int)]
def wsX1_digest : List Cond := .code yX1_digest cX1_digest 3 (some .long) :: ((wsX1_digest_r1 ++ wsX1_digest_r2) ++ wsX10 ++ wsX00)
def wsX2_init : List Cond := .code yX2_init cX2_init 2 none :: ([.methodLink RX2 1 objectInit, .instanceMethod objectInit, .code objectInit ⟨#[0xb1]⟩ 1 none, .arrayClass .int, .fieldLink RX2 7 "LinkEstablisherModel" "s" "[I", .fieldLink RX2 13 "LinkEstablisherModel" "past" "[I", .fieldLink RX2 16 "LinkEstablisherModel" "errors" "[I", .fieldLink RX2 19 "LinkEstablisherModel" "order" "[I", .fieldLink RX2 22 "LinkEstablisherModel" "rank" "[I"] ++ wsX20)
def wsX2_in : List Cond := .code yX2_in cX2_in 3 (some .boolean) :: ([])
def wsX2_has : List Cond := .code yX2_has cX2_has 2 (some .boolean) :: ([])
def wsX2_fail : List Cond := .code yX2_fail cX2_fail 2 (some .int) :: ([.fieldLink RX2 16 "LinkEstablisherModel" "errors" "[I"] ++ wsX20)
def wsX2_note : List Cond := .code yX2_note cX2_note 2 none :: ([.fieldLink RX2 25 "LinkEstablisherModel" "pasts" "I", .fieldLink RX2 13 "LinkEstablisherModel" "past" "[I", .fieldLink RX2 7 "LinkEstablisherModel" "s" "[I"] ++ wsX20)
def wsX2_undo : List Cond := .code yX2_undo cX2_undo 2 (some .int) :: ([.fieldLink RX2 25 "LinkEstablisherModel" "pasts" "I", .fieldLink RX2 7 "LinkEstablisherModel" "s" "[I", .fieldLink RX2 13 "LinkEstablisherModel" "past" "[I", .methodLink RX2 29 yX2_fail, .instanceMethod yX2_fail, .selects RX2 yX2_fail yX2_fail, .initialized RX2, .code yX2_fail cX2_fail 2 (some .int), .fieldLink RX2 16 "LinkEstablisherModel" "errors" "[I"] ++ wsX20)
def wsX2_isStation : List Cond := .code yX2_isStation cX2_isStation 1 (some .boolean) :: ([.methodLink RX2 33 yX2_in, .static yX2_in, .initialized RX2, .code yX2_in cX2_in 3 (some .boolean)])
def wsX2_isChannel : List Cond := .code yX2_isChannel cX2_isChannel 1 (some .boolean) :: ([.methodLink RX2 33 yX2_in, .static yX2_in, .initialized RX2, .code yX2_in cX2_in 3 (some .boolean)])
def wsX2_arePair : List Cond := .code yX2_arePair cX2_arePair 2 (some .boolean) :: ([.methodLink RX2 37 yX2_isStation, .static yX2_isStation, .initialized RX2, .code yX2_isStation cX2_isStation 1 (some .boolean), .methodLink RX2 33 yX2_in, .static yX2_in, .code yX2_in cX2_in 3 (some .boolean)])
def wsX2_at : List Cond := .code yX2_at cX2_at 3 (some .int) :: ([])
def wsX2_isLinked : List Cond := .code yX2_isLinked cX2_isLinked 2 (some .boolean) :: ([.fieldLink RX2 7 "LinkEstablisherModel" "s" "[I"] ++ wsX20)
def wsX2_count : List Cond := .code yX2_count cX2_count 3 (some .int) :: ([])
def wsX2_setScan : List Cond := .code yX2_setScan cX2_setScan 4 (some .int) :: ([.fieldLink RX2 7 "LinkEstablisherModel" "s" "[I", .methodLink RX2 37 yX2_isStation, .static yX2_isStation, .initialized RX2, .code yX2_isStation cX2_isStation 1 (some .boolean), .methodLink RX2 33 yX2_in, .static yX2_in, .code yX2_in cX2_in 3 (some .boolean), .methodLink RX2 29 yX2_fail, .instanceMethod yX2_fail, .selects RX2 yX2_fail yX2_fail, .code yX2_fail cX2_fail 2 (some .int), .fieldLink RX2 16 "LinkEstablisherModel" "errors" "[I", .methodLink RX2 41 yX2_note, .instanceMethod yX2_note, .selects RX2 yX2_note yX2_note, .code yX2_note cX2_note 2 none, .fieldLink RX2 25 "LinkEstablisherModel" "pasts" "I", .fieldLink RX2 13 "LinkEstablisherModel" "past" "[I"] ++ wsX20)
def wsX2_setQuality_r1 : List Cond := [Cond.fieldLink RX2 7 "LinkEstablisherModel" "s" "[I", Cond.methodLink RX2 44 yX2_arePair, Cond.static yX2_arePair, Cond.initialized RX2, Cond.code yX2_arePair cX2_arePair 2 (some .boolean), Cond.methodLink RX2 37 yX2_isStation, Cond.static yX2_isStation, Cond.code yX2_isStation cX2_isStation 1 (some .boolean), Cond.methodLink RX2 33 yX2_in, Cond.static yX2_in, Cond.code yX2_in cX2_in 3 (some .boolean), Cond.methodLink RX2 48 yX2_isChannel, Cond.static yX2_isChannel, Cond.code yX2_isChannel cX2_isChannel 1 (some .boolean), Cond.methodLink RX2 29 yX2_fail, Cond.instanceMethod yX2_fail, Cond.selects RX2 yX2_fail yX2_fail, Cond.code yX2_fail cX2_fail 2 (some .int), Cond.fieldLink RX2 16 "LinkEstablisherModel" "errors" "[I", Cond.methodLink RX2 41 yX2_note, Cond.instanceMethod yX2_note, Cond.selects RX2 yX2_note yX2_note, Cond.code yX2_note cX2_note 2 none, Cond.fieldLink RX2 25 "LinkEstablisherModel" "pasts" "I"]
def wsX2_setQuality_r2 : List Cond := [Cond.fieldLink RX2 13 "LinkEstablisherModel" "past" "[I", Cond.methodLink RX2 51 yX2_at, Cond.static yX2_at, Cond.code yX2_at cX2_at 3 (some .int)]
def wsX2_setQuality : List Cond := .code yX2_setQuality cX2_setQuality 6 (some .int) :: ((wsX2_setQuality_r1 ++ wsX2_setQuality_r2) ++ wsX20)
def wsX2_setAgeing : List Cond := .code yX2_setAgeing cX2_setAgeing 3 (some .int) :: ([.fieldLink RX2 7 "LinkEstablisherModel" "s" "[I", .methodLink RX2 33 yX2_in, .static yX2_in, .initialized RX2, .code yX2_in cX2_in 3 (some .boolean), .methodLink RX2 29 yX2_fail, .instanceMethod yX2_fail, .selects RX2 yX2_fail yX2_fail, .code yX2_fail cX2_fail 2 (some .int), .fieldLink RX2 16 "LinkEstablisherModel" "errors" "[I", .methodLink RX2 41 yX2_note, .instanceMethod yX2_note, .selects RX2 yX2_note yX2_note, .code yX2_note cX2_note 2 none, .fieldLink RX2 25 "LinkEstablisherModel" "pasts" "I", .fieldLink RX2 13 "LinkEstablisherModel" "past" "[I"] ++ wsX20)
def wsX2_setNoise : List Cond := .code yX2_setNoise cX2_setNoise 2 (some .int) :: ([.fieldLink RX2 7 "LinkEstablisherModel" "s" "[I", .methodLink RX2 29 yX2_fail, .instanceMethod yX2_fail, .selects RX2 yX2_fail yX2_fail, .initialized RX2, .code yX2_fail cX2_fail 2 (some .int), .fieldLink RX2 16 "LinkEstablisherModel" "errors" "[I", .methodLink RX2 41 yX2_note, .instanceMethod yX2_note, .selects RX2 yX2_note yX2_note, .code yX2_note cX2_note 2 none, .fieldLink RX2 25 "LinkEstablisherModel" "pasts" "I", .fieldLink RX2 13 "LinkEstablisherModel" "past" "[I"] ++ wsX20)
def wsX2_pass : List Cond := .code yX2_pass cX2_pass 2 (some .int) :: ([.fieldLink RX2 7 "LinkEstablisherModel" "s" "[I", .methodLink RX2 33 yX2_in, .static yX2_in, .initialized RX2, .code yX2_in cX2_in 3 (some .boolean), .methodLink RX2 29 yX2_fail, .instanceMethod yX2_fail, .selects RX2 yX2_fail yX2_fail, .code yX2_fail cX2_fail 2 (some .int), .fieldLink RX2 16 "LinkEstablisherModel" "errors" "[I", .methodLink RX2 41 yX2_note, .instanceMethod yX2_note, .selects RX2 yX2_note yX2_note, .code yX2_note cX2_note 2 none, .fieldLink RX2 25 "LinkEstablisherModel" "pasts" "I", .fieldLink RX2 13 "LinkEstablisherModel" "past" "[I"] ++ wsX20)
def wsX2_draw : List Cond := .code yX2_draw cX2_draw 3 (some .int) :: ([.fieldLink RX2 7 "LinkEstablisherModel" "s" "[I", .constantLong RX2 55 (1103515245), .constantLong RX2 57 (12345), .constantLong RX2 59 (2147483648), .constant RX2 61 (65536)] ++ wsX20)
def wsX2_majority : List Cond := .code yX2_majority cX2_majority 3 (some .int) :: ([])
def wsX2_copyOf : List Cond := .code yX2_copyOf cX2_copyOf 5 (some .int) :: ([.methodLink RX2 62 yX2_draw, .instanceMethod yX2_draw, .selects RX2 yX2_draw yX2_draw, .initialized RX2, .code yX2_draw cX2_draw 3 (some .int), .fieldLink RX2 7 "LinkEstablisherModel" "s" "[I", .constantLong RX2 55 (1103515245), .constantLong RX2 57 (12345), .constantLong RX2 59 (2147483648), .constant RX2 61 (65536)] ++ wsX20)
def wsX2_transmit : List Cond := .code yX2_transmit cX2_transmit 14 (some .boolean) :: ([.constant RX2 61 (65536), .fieldLink RX2 7 "LinkEstablisherModel" "s" "[I", .methodLink RX2 51 yX2_at, .static yX2_at, .initialized RX2, .code yX2_at cX2_at 3 (some .int), .methodLink RX2 66 yX2_copyOf, .instanceMethod yX2_copyOf, .selects RX2 yX2_copyOf yX2_copyOf, .code yX2_copyOf cX2_copyOf 5 (some .int), .methodLink RX2 62 yX2_draw, .instanceMethod yX2_draw, .selects RX2 yX2_draw yX2_draw, .code yX2_draw cX2_draw 3 (some .int), .constantLong RX2 55 (1103515245), .constantLong RX2 57 (12345), .constantLong RX2 59 (2147483648), .methodLink RX2 70 yX2_has, .static yX2_has, .code yX2_has cX2_has 2 (some .boolean), .methodLink RX2 73 yX2_majority, .static yX2_majority, .code yX2_majority cX2_majority 3 (some .int)] ++ wsX20)
def wsX2_listens : List Cond := .code yX2_listens cX2_listens 5 (some .int) :: ([.fieldLink RX2 7 "LinkEstablisherModel" "s" "[I", .methodLink RX2 76 yX2_count, .static yX2_count, .initialized RX2, .code yX2_count cX2_count 3 (some .int), .methodLink RX2 70 yX2_has, .static yX2_has, .code yX2_has cX2_has 2 (some .boolean)] ++ wsX20)
def wsX2_mostOf : List Cond := .code yX2_mostOf cX2_mostOf 5 (some .int) :: ([.fieldLink RX2 7 "LinkEstablisherModel" "s" "[I", .methodLink RX2 70 yX2_has, .static yX2_has, .initialized RX2, .code yX2_has cX2_has 2 (some .boolean), .methodLink RX2 76 yX2_count, .static yX2_count, .code yX2_count cX2_count 3 (some .int)] ++ wsX20)
def wsX2_sound_r1 : List Cond := [Cond.fieldLink RX2 7 "LinkEstablisherModel" "s" "[I", Cond.methodLink RX2 37 yX2_isStation, Cond.static yX2_isStation, Cond.initialized RX2, Cond.code yX2_isStation cX2_isStation 1 (some .boolean), Cond.methodLink RX2 33 yX2_in, Cond.static yX2_in, Cond.code yX2_in cX2_in 3 (some .boolean), Cond.methodLink RX2 48 yX2_isChannel, Cond.static yX2_isChannel, Cond.code yX2_isChannel cX2_isChannel 1 (some .boolean), Cond.methodLink RX2 29 yX2_fail, Cond.instanceMethod yX2_fail, Cond.selects RX2 yX2_fail yX2_fail, Cond.code yX2_fail cX2_fail 2 (some .int), Cond.fieldLink RX2 16 "LinkEstablisherModel" "errors" "[I", Cond.methodLink RX2 79 yX2_isLinked, Cond.instanceMethod yX2_isLinked, Cond.selects RX2 yX2_isLinked yX2_isLinked, Cond.code yX2_isLinked cX2_isLinked 2 (some .boolean), Cond.methodLink RX2 41 yX2_note, Cond.instanceMethod yX2_note, Cond.selects RX2 yX2_note yX2_note, Cond.code yX2_note cX2_note 2 none]
def wsX2_sound_r2 : List Cond := [Cond.fieldLink RX2 25 "LinkEstablisherModel" "pasts" "I", Cond.fieldLink RX2 13 "LinkEstablisherModel" "past" "[I", Cond.methodLink RX2 82 yX2_mostOf, Cond.instanceMethod yX2_mostOf, Cond.selects RX2 yX2_mostOf yX2_mostOf, Cond.code yX2_mostOf cX2_mostOf 5 (some .int), Cond.methodLink RX2 70 yX2_has, Cond.static yX2_has, Cond.code yX2_has cX2_has 2 (some .boolean), Cond.methodLink RX2 76 yX2_count, Cond.static yX2_count, Cond.code yX2_count cX2_count 3 (some .int), Cond.methodLink RX2 85 yX2_listens, Cond.instanceMethod yX2_listens, Cond.selects RX2 yX2_listens yX2_listens, Cond.code yX2_listens cX2_listens 5 (some .int), Cond.methodLink RX2 88 yX2_transmit, Cond.instanceMethod yX2_transmit, Cond.selects RX2 yX2_transmit yX2_transmit, Cond.code yX2_transmit cX2_transmit 14 (some .boolean), Cond.constant RX2 61 (65536), Cond.methodLink RX2 51 yX2_at, Cond.static yX2_at, Cond.code yX2_at cX2_at 3 (some .int)]
def wsX2_sound_r3 : List Cond := [Cond.methodLink RX2 66 yX2_copyOf, Cond.instanceMethod yX2_copyOf, Cond.selects RX2 yX2_copyOf yX2_copyOf, Cond.code yX2_copyOf cX2_copyOf 5 (some .int), Cond.methodLink RX2 62 yX2_draw, Cond.instanceMethod yX2_draw, Cond.selects RX2 yX2_draw yX2_draw, Cond.code yX2_draw cX2_draw 3 (some .int), Cond.constantLong RX2 55 (1103515245), Cond.constantLong RX2 57 (12345), Cond.constantLong RX2 59 (2147483648), Cond.methodLink RX2 73 yX2_majority, Cond.static yX2_majority, Cond.code yX2_majority cX2_majority 3 (some .int)]
def wsX2_sound : List Cond := .code yX2_sound cX2_sound 8 (some .int) :: ((wsX2_sound_r1 ++ (wsX2_sound_r2 ++ wsX2_sound_r3)) ++ wsX20)
def wsX2_effectiveOf : List Cond := .code yX2_effectiveOf cX2_effectiveOf 6 (some .int) :: ([.fieldLink RX2 7 "LinkEstablisherModel" "s" "[I", .methodLink RX2 51 yX2_at, .static yX2_at, .initialized RX2, .code yX2_at cX2_at 3 (some .int)] ++ wsX20)
def wsX2_sortChannels : List Cond := .code yX2_sortChannels cX2_sortChannels 7 (some .int) :: ([.fieldLink RX2 7 "LinkEstablisherModel" "s" "[I", .fieldLink RX2 22 "LinkEstablisherModel" "rank" "[I", .fieldLink RX2 19 "LinkEstablisherModel" "order" "[I", .methodLink RX2 70 yX2_has, .static yX2_has, .initialized RX2, .code yX2_has cX2_has 2 (some .boolean), .methodLink RX2 92 yX2_effectiveOf, .instanceMethod yX2_effectiveOf, .selects RX2 yX2_effectiveOf yX2_effectiveOf, .code yX2_effectiveOf cX2_effectiveOf 6 (some .int), .methodLink RX2 51 yX2_at, .static yX2_at, .code yX2_at cX2_at 3 (some .int)] ++ wsX20)
def wsX2_attempt_r1 : List Cond := [Cond.fieldLink RX2 7 "LinkEstablisherModel" "s" "[I", Cond.methodLink RX2 76 yX2_count, Cond.static yX2_count, Cond.initialized RX2, Cond.code yX2_count cX2_count 3 (some .int), Cond.methodLink RX2 70 yX2_has, Cond.static yX2_has, Cond.code yX2_has cX2_has 2 (some .boolean), Cond.methodLink RX2 88 yX2_transmit, Cond.instanceMethod yX2_transmit, Cond.selects RX2 yX2_transmit yX2_transmit, Cond.code yX2_transmit cX2_transmit 14 (some .boolean), Cond.constant RX2 61 (65536), Cond.methodLink RX2 51 yX2_at, Cond.static yX2_at, Cond.code yX2_at cX2_at 3 (some .int), Cond.methodLink RX2 66 yX2_copyOf, Cond.instanceMethod yX2_copyOf, Cond.selects RX2 yX2_copyOf yX2_copyOf, Cond.code yX2_copyOf cX2_copyOf 5 (some .int), Cond.methodLink RX2 62 yX2_draw, Cond.instanceMethod yX2_draw, Cond.selects RX2 yX2_draw yX2_draw, Cond.code yX2_draw cX2_draw 3 (some .int)]
def wsX2_attempt_r2 : List Cond := [Cond.constantLong RX2 55 (1103515245), Cond.constantLong RX2 57 (12345), Cond.constantLong RX2 59 (2147483648), Cond.methodLink RX2 73 yX2_majority, Cond.static yX2_majority, Cond.code yX2_majority cX2_majority 3 (some .int)]
def wsX2_attempt : List Cond := .code yX2_attempt cX2_attempt 4 (some .boolean) :: ((wsX2_attempt_r1 ++ wsX2_attempt_r2) ++ wsX20)
def wsX2_join : List Cond := .code yX2_join cX2_join 4 none :: ([.fieldLink RX2 7 "LinkEstablisherModel" "s" "[I", .methodLink RX2 70 yX2_has, .static yX2_has, .initialized RX2, .code yX2_has cX2_has 2 (some .boolean)] ++ wsX20)
def wsX2_call_r1 : List Cond := [Cond.fieldLink RX2 7 "LinkEstablisherModel" "s" "[I", Cond.fieldLink RX2 19 "LinkEstablisherModel" "order" "[I", Cond.methodLink RX2 44 yX2_arePair, Cond.static yX2_arePair, Cond.initialized RX2, Cond.code yX2_arePair cX2_arePair 2 (some .boolean), Cond.methodLink RX2 37 yX2_isStation, Cond.static yX2_isStation, Cond.code yX2_isStation cX2_isStation 1 (some .boolean), Cond.methodLink RX2 33 yX2_in, Cond.static yX2_in, Cond.code yX2_in cX2_in 3 (some .boolean), Cond.methodLink RX2 29 yX2_fail, Cond.instanceMethod yX2_fail, Cond.selects RX2 yX2_fail yX2_fail, Cond.code yX2_fail cX2_fail 2 (some .int), Cond.fieldLink RX2 16 "LinkEstablisherModel" "errors" "[I", Cond.methodLink RX2 79 yX2_isLinked, Cond.instanceMethod yX2_isLinked, Cond.selects RX2 yX2_isLinked yX2_isLinked, Cond.code yX2_isLinked cX2_isLinked 2 (some .boolean), Cond.methodLink RX2 41 yX2_note, Cond.instanceMethod yX2_note, Cond.selects RX2 yX2_note yX2_note]
def wsX2_call_r2 : List Cond := [Cond.code yX2_note cX2_note 2 none, Cond.fieldLink RX2 25 "LinkEstablisherModel" "pasts" "I", Cond.fieldLink RX2 13 "LinkEstablisherModel" "past" "[I", Cond.methodLink RX2 95 yX2_sortChannels, Cond.instanceMethod yX2_sortChannels, Cond.selects RX2 yX2_sortChannels yX2_sortChannels, Cond.code yX2_sortChannels cX2_sortChannels 7 (some .int), Cond.fieldLink RX2 22 "LinkEstablisherModel" "rank" "[I", Cond.methodLink RX2 70 yX2_has, Cond.static yX2_has, Cond.code yX2_has cX2_has 2 (some .boolean), Cond.methodLink RX2 92 yX2_effectiveOf, Cond.instanceMethod yX2_effectiveOf, Cond.selects RX2 yX2_effectiveOf yX2_effectiveOf, Cond.code yX2_effectiveOf cX2_effectiveOf 6 (some .int), Cond.methodLink RX2 51 yX2_at, Cond.static yX2_at, Cond.code yX2_at cX2_at 3 (some .int), Cond.methodLink RX2 98 yX2_attempt, Cond.instanceMethod yX2_attempt, Cond.selects RX2 yX2_attempt yX2_attempt, Cond.code yX2_attempt cX2_attempt 4 (some .boolean), Cond.methodLink RX2 76 yX2_count, Cond.static yX2_count]
def wsX2_call_r3 : List Cond := [Cond.code yX2_count cX2_count 3 (some .int), Cond.methodLink RX2 88 yX2_transmit, Cond.instanceMethod yX2_transmit, Cond.selects RX2 yX2_transmit yX2_transmit, Cond.code yX2_transmit cX2_transmit 14 (some .boolean), Cond.constant RX2 61 (65536), Cond.methodLink RX2 66 yX2_copyOf, Cond.instanceMethod yX2_copyOf, Cond.selects RX2 yX2_copyOf yX2_copyOf, Cond.code yX2_copyOf cX2_copyOf 5 (some .int), Cond.methodLink RX2 62 yX2_draw, Cond.instanceMethod yX2_draw, Cond.selects RX2 yX2_draw yX2_draw, Cond.code yX2_draw cX2_draw 3 (some .int), Cond.constantLong RX2 55 (1103515245), Cond.constantLong RX2 57 (12345), Cond.constantLong RX2 59 (2147483648), Cond.methodLink RX2 73 yX2_majority, Cond.static yX2_majority, Cond.code yX2_majority cX2_majority 3 (some .int), Cond.methodLink RX2 101 yX2_join, Cond.instanceMethod yX2_join, Cond.selects RX2 yX2_join yX2_join, Cond.code yX2_join cX2_join 4 none]
def wsX2_call : List Cond := .code yX2_call cX2_call 5 (some .int) :: ((wsX2_call_r1 ++ (wsX2_call_r2 ++ wsX2_call_r3)) ++ wsX20)
def wsX2_netScore : List Cond := .code yX2_netScore cX2_netScore 7 (some .int) :: ([.methodLink RX2 70 yX2_has, .static yX2_has, .initialized RX2, .code yX2_has cX2_has 2 (some .boolean), .methodLink RX2 92 yX2_effectiveOf, .instanceMethod yX2_effectiveOf, .selects RX2 yX2_effectiveOf yX2_effectiveOf, .code yX2_effectiveOf cX2_effectiveOf 6 (some .int), .fieldLink RX2 7 "LinkEstablisherModel" "s" "[I", .methodLink RX2 51 yX2_at, .static yX2_at, .code yX2_at cX2_at 3 (some .int)] ++ wsX20)
def wsX2_netChannelOf : List Cond := .code yX2_netChannelOf cX2_netChannelOf 6 (some .int) :: ([.fieldLink RX2 7 "LinkEstablisherModel" "s" "[I", .methodLink RX2 70 yX2_has, .static yX2_has, .initialized RX2, .code yX2_has cX2_has 2 (some .boolean), .methodLink RX2 105 yX2_netScore, .instanceMethod yX2_netScore, .selects RX2 yX2_netScore yX2_netScore, .code yX2_netScore cX2_netScore 7 (some .int), .methodLink RX2 92 yX2_effectiveOf, .instanceMethod yX2_effectiveOf, .selects RX2 yX2_effectiveOf yX2_effectiveOf, .code yX2_effectiveOf cX2_effectiveOf 6 (some .int), .methodLink RX2 51 yX2_at, .static yX2_at, .code yX2_at cX2_at 3 (some .int)] ++ wsX20)
def wsX2_isNet : List Cond := .code yX2_isNet cX2_isNet 2 (some .boolean) :: ([.methodLink RX2 37 yX2_isStation, .static yX2_isStation, .initialized RX2, .code yX2_isStation cX2_isStation 1 (some .boolean), .methodLink RX2 33 yX2_in, .static yX2_in, .code yX2_in cX2_in 3 (some .boolean), .methodLink RX2 70 yX2_has, .static yX2_has, .code yX2_has cX2_has 2 (some .boolean)])
def wsX2_answers_r1 : List Cond := [Cond.fieldLink RX2 7 "LinkEstablisherModel" "s" "[I", Cond.methodLink RX2 70 yX2_has, Cond.static yX2_has, Cond.initialized RX2, Cond.code yX2_has cX2_has 2 (some .boolean), Cond.methodLink RX2 79 yX2_isLinked, Cond.instanceMethod yX2_isLinked, Cond.selects RX2 yX2_isLinked yX2_isLinked, Cond.code yX2_isLinked cX2_isLinked 2 (some .boolean), Cond.methodLink RX2 88 yX2_transmit, Cond.instanceMethod yX2_transmit, Cond.selects RX2 yX2_transmit yX2_transmit, Cond.code yX2_transmit cX2_transmit 14 (some .boolean), Cond.constant RX2 61 (65536), Cond.methodLink RX2 51 yX2_at, Cond.static yX2_at, Cond.code yX2_at cX2_at 3 (some .int), Cond.methodLink RX2 66 yX2_copyOf, Cond.instanceMethod yX2_copyOf, Cond.selects RX2 yX2_copyOf yX2_copyOf, Cond.code yX2_copyOf cX2_copyOf 5 (some .int), Cond.methodLink RX2 62 yX2_draw, Cond.instanceMethod yX2_draw, Cond.selects RX2 yX2_draw yX2_draw]
def wsX2_answers_r2 : List Cond := [Cond.code yX2_draw cX2_draw 3 (some .int), Cond.constantLong RX2 55 (1103515245), Cond.constantLong RX2 57 (12345), Cond.constantLong RX2 59 (2147483648), Cond.methodLink RX2 73 yX2_majority, Cond.static yX2_majority, Cond.code yX2_majority cX2_majority 3 (some .int)]
def wsX2_answers : List Cond := .code yX2_answers cX2_answers 4 (some .boolean) :: ((wsX2_answers_r1 ++ wsX2_answers_r2) ++ wsX20)
def wsX2_netCall_r1 : List Cond := [Cond.fieldLink RX2 7 "LinkEstablisherModel" "s" "[I", Cond.methodLink RX2 108 yX2_isNet, Cond.static yX2_isNet, Cond.initialized RX2, Cond.code yX2_isNet cX2_isNet 2 (some .boolean), Cond.methodLink RX2 37 yX2_isStation, Cond.static yX2_isStation, Cond.code yX2_isStation cX2_isStation 1 (some .boolean), Cond.methodLink RX2 33 yX2_in, Cond.static yX2_in, Cond.code yX2_in cX2_in 3 (some .boolean), Cond.methodLink RX2 70 yX2_has, Cond.static yX2_has, Cond.code yX2_has cX2_has 2 (some .boolean), Cond.methodLink RX2 29 yX2_fail, Cond.instanceMethod yX2_fail, Cond.selects RX2 yX2_fail yX2_fail, Cond.code yX2_fail cX2_fail 2 (some .int), Cond.fieldLink RX2 16 "LinkEstablisherModel" "errors" "[I", Cond.methodLink RX2 79 yX2_isLinked, Cond.instanceMethod yX2_isLinked, Cond.selects RX2 yX2_isLinked yX2_isLinked, Cond.code yX2_isLinked cX2_isLinked 2 (some .boolean), Cond.methodLink RX2 41 yX2_note]
def wsX2_netCall_r2 : List Cond := [Cond.instanceMethod yX2_note, Cond.selects RX2 yX2_note yX2_note, Cond.code yX2_note cX2_note 2 none, Cond.fieldLink RX2 25 "LinkEstablisherModel" "pasts" "I", Cond.fieldLink RX2 13 "LinkEstablisherModel" "past" "[I", Cond.methodLink RX2 111 yX2_netChannelOf, Cond.instanceMethod yX2_netChannelOf, Cond.selects RX2 yX2_netChannelOf yX2_netChannelOf, Cond.code yX2_netChannelOf cX2_netChannelOf 6 (some .int), Cond.methodLink RX2 105 yX2_netScore, Cond.instanceMethod yX2_netScore, Cond.selects RX2 yX2_netScore yX2_netScore, Cond.code yX2_netScore cX2_netScore 7 (some .int), Cond.methodLink RX2 92 yX2_effectiveOf, Cond.instanceMethod yX2_effectiveOf, Cond.selects RX2 yX2_effectiveOf yX2_effectiveOf, Cond.code yX2_effectiveOf cX2_effectiveOf 6 (some .int), Cond.methodLink RX2 51 yX2_at, Cond.static yX2_at, Cond.code yX2_at cX2_at 3 (some .int), Cond.methodLink RX2 82 yX2_mostOf, Cond.instanceMethod yX2_mostOf, Cond.selects RX2 yX2_mostOf yX2_mostOf, Cond.code yX2_mostOf cX2_mostOf 5 (some .int)]
def wsX2_netCall_r3 : List Cond := [Cond.methodLink RX2 76 yX2_count, Cond.static yX2_count, Cond.code yX2_count cX2_count 3 (some .int), Cond.methodLink RX2 114 yX2_answers, Cond.instanceMethod yX2_answers, Cond.selects RX2 yX2_answers yX2_answers, Cond.code yX2_answers cX2_answers 4 (some .boolean), Cond.methodLink RX2 88 yX2_transmit, Cond.instanceMethod yX2_transmit, Cond.selects RX2 yX2_transmit yX2_transmit, Cond.code yX2_transmit cX2_transmit 14 (some .boolean), Cond.constant RX2 61 (65536), Cond.methodLink RX2 66 yX2_copyOf, Cond.instanceMethod yX2_copyOf, Cond.selects RX2 yX2_copyOf yX2_copyOf, Cond.code yX2_copyOf cX2_copyOf 5 (some .int), Cond.methodLink RX2 62 yX2_draw, Cond.instanceMethod yX2_draw, Cond.selects RX2 yX2_draw yX2_draw, Cond.code yX2_draw cX2_draw 3 (some .int), Cond.constantLong RX2 55 (1103515245), Cond.constantLong RX2 57 (12345), Cond.constantLong RX2 59 (2147483648), Cond.methodLink RX2 73 yX2_majority]
def wsX2_netCall_r4 : List Cond := [Cond.static yX2_majority, Cond.code yX2_majority cX2_majority 3 (some .int), Cond.methodLink RX2 101 yX2_join, Cond.instanceMethod yX2_join, Cond.selects RX2 yX2_join yX2_join, Cond.code yX2_join cX2_join 4 none]
def wsX2_netCall : List Cond := .code yX2_netCall cX2_netCall 7 (some .int) :: ((wsX2_netCall_r1 ++ (wsX2_netCall_r2 ++ (wsX2_netCall_r3 ++ wsX2_netCall_r4))) ++ wsX20)
def wsX2_leave : List Cond := .code yX2_leave cX2_leave 2 none :: ([.fieldLink RX2 7 "LinkEstablisherModel" "s" "[I"] ++ wsX20)
def wsX2_hangUp_r1 : List Cond := [Cond.fieldLink RX2 7 "LinkEstablisherModel" "s" "[I", Cond.methodLink RX2 37 yX2_isStation, Cond.static yX2_isStation, Cond.initialized RX2, Cond.code yX2_isStation cX2_isStation 1 (some .boolean), Cond.methodLink RX2 33 yX2_in, Cond.static yX2_in, Cond.code yX2_in cX2_in 3 (some .boolean), Cond.methodLink RX2 29 yX2_fail, Cond.instanceMethod yX2_fail, Cond.selects RX2 yX2_fail yX2_fail, Cond.code yX2_fail cX2_fail 2 (some .int), Cond.fieldLink RX2 16 "LinkEstablisherModel" "errors" "[I", Cond.methodLink RX2 79 yX2_isLinked, Cond.instanceMethod yX2_isLinked, Cond.selects RX2 yX2_isLinked yX2_isLinked, Cond.code yX2_isLinked cX2_isLinked 2 (some .boolean), Cond.methodLink RX2 41 yX2_note, Cond.instanceMethod yX2_note, Cond.selects RX2 yX2_note yX2_note, Cond.code yX2_note cX2_note 2 none, Cond.fieldLink RX2 25 "LinkEstablisherModel" "pasts" "I", Cond.fieldLink RX2 13 "LinkEstablisherModel" "past" "[I", Cond.methodLink RX2 117 yX2_leave]
def wsX2_hangUp_r2 : List Cond := [Cond.instanceMethod yX2_leave, Cond.selects RX2 yX2_leave yX2_leave, Cond.code yX2_leave cX2_leave 2 none, Cond.methodLink RX2 76 yX2_count, Cond.static yX2_count, Cond.code yX2_count cX2_count 3 (some .int), Cond.methodLink RX2 70 yX2_has, Cond.static yX2_has, Cond.code yX2_has cX2_has 2 (some .boolean)]
def wsX2_hangUp : List Cond := .code yX2_hangUp cX2_hangUp 5 (some .int) :: ((wsX2_hangUp_r1 ++ wsX2_hangUp_r2) ++ wsX20)
def wsX2_attempts : List Cond := .code yX2_attempts cX2_attempts 1 (some .int) :: ([.fieldLink RX2 7 "LinkEstablisherModel" "s" "[I"] ++ wsX20)
def wsX2_lastChannel : List Cond := .code yX2_lastChannel cX2_lastChannel 1 (some .int) :: ([.fieldLink RX2 7 "LinkEstablisherModel" "s" "[I"] ++ wsX20)
def wsX2_lastUnanimous : List Cond := .code yX2_lastUnanimous cX2_lastUnanimous 1 (some .int) :: ([.fieldLink RX2 7 "LinkEstablisherModel" "s" "[I"] ++ wsX20)
def wsX2_lastVoted : List Cond := .code yX2_lastVoted cX2_lastVoted 1 (some .int) :: ([.fieldLink RX2 7 "LinkEstablisherModel" "s" "[I"] ++ wsX20)
def wsX2_scan : List Cond := .code yX2_scan cX2_scan 2 (some .int) :: ([.fieldLink RX2 7 "LinkEstablisherModel" "s" "[I", .methodLink RX2 37 yX2_isStation, .static yX2_isStation, .initialized RX2, .code yX2_isStation cX2_isStation 1 (some .boolean), .methodLink RX2 33 yX2_in, .static yX2_in, .code yX2_in cX2_in 3 (some .boolean), .methodLink RX2 29 yX2_fail, .instanceMethod yX2_fail, .selects RX2 yX2_fail yX2_fail, .code yX2_fail cX2_fail 2 (some .int), .fieldLink RX2 16 "LinkEstablisherModel" "errors" "[I"] ++ wsX20)
def wsX2_listening_r1 : List Cond := [Cond.fieldLink RX2 7 "LinkEstablisherModel" "s" "[I", Cond.methodLink RX2 37 yX2_isStation, Cond.static yX2_isStation, Cond.initialized RX2, Cond.code yX2_isStation cX2_isStation 1 (some .boolean), Cond.methodLink RX2 33 yX2_in, Cond.static yX2_in, Cond.code yX2_in cX2_in 3 (some .boolean), Cond.methodLink RX2 29 yX2_fail, Cond.instanceMethod yX2_fail, Cond.selects RX2 yX2_fail yX2_fail, Cond.code yX2_fail cX2_fail 2 (some .int), Cond.fieldLink RX2 16 "LinkEstablisherModel" "errors" "[I", Cond.methodLink RX2 79 yX2_isLinked, Cond.instanceMethod yX2_isLinked, Cond.selects RX2 yX2_isLinked yX2_isLinked, Cond.code yX2_isLinked cX2_isLinked 2 (some .boolean), Cond.methodLink RX2 85 yX2_listens, Cond.instanceMethod yX2_listens, Cond.selects RX2 yX2_listens yX2_listens, Cond.code yX2_listens cX2_listens 5 (some .int), Cond.methodLink RX2 76 yX2_count, Cond.static yX2_count, Cond.code yX2_count cX2_count 3 (some .int)]
def wsX2_listening_r2 : List Cond := [Cond.methodLink RX2 70 yX2_has, Cond.static yX2_has, Cond.code yX2_has cX2_has 2 (some .boolean)]
def wsX2_listening : List Cond := .code yX2_listening cX2_listening 2 (some .int) :: ((wsX2_listening_r1 ++ wsX2_listening_r2) ++ wsX20)
def wsX2_isThere : List Cond := .code yX2_isThere cX2_isThere 3 (some .boolean) :: ([.methodLink RX2 44 yX2_arePair, .static yX2_arePair, .initialized RX2, .code yX2_arePair cX2_arePair 2 (some .boolean), .methodLink RX2 37 yX2_isStation, .static yX2_isStation, .code yX2_isStation cX2_isStation 1 (some .boolean), .methodLink RX2 33 yX2_in, .static yX2_in, .code yX2_in cX2_in 3 (some .boolean), .methodLink RX2 48 yX2_isChannel, .static yX2_isChannel, .code yX2_isChannel cX2_isChannel 1 (some .boolean)])
def wsX2_quality_r1 : List Cond := [Cond.fieldLink RX2 7 "LinkEstablisherModel" "s" "[I", Cond.methodLink RX2 121 yX2_isThere, Cond.static yX2_isThere, Cond.initialized RX2, Cond.code yX2_isThere cX2_isThere 3 (some .boolean), Cond.methodLink RX2 44 yX2_arePair, Cond.static yX2_arePair, Cond.code yX2_arePair cX2_arePair 2 (some .boolean), Cond.methodLink RX2 37 yX2_isStation, Cond.static yX2_isStation, Cond.code yX2_isStation cX2_isStation 1 (some .boolean), Cond.methodLink RX2 33 yX2_in, Cond.static yX2_in, Cond.code yX2_in cX2_in 3 (some .boolean), Cond.methodLink RX2 48 yX2_isChannel, Cond.static yX2_isChannel, Cond.code yX2_isChannel cX2_isChannel 1 (some .boolean), Cond.methodLink RX2 51 yX2_at, Cond.static yX2_at, Cond.code yX2_at cX2_at 3 (some .int), Cond.methodLink RX2 29 yX2_fail, Cond.instanceMethod yX2_fail, Cond.selects RX2 yX2_fail yX2_fail, Cond.code yX2_fail cX2_fail 2 (some .int)]
def wsX2_quality_r2 : List Cond := [Cond.fieldLink RX2 16 "LinkEstablisherModel" "errors" "[I"]
def wsX2_quality : List Cond := .code yX2_quality cX2_quality 4 (some .int) :: ((wsX2_quality_r1 ++ wsX2_quality_r2) ++ wsX20)
def wsX2_score_r1 : List Cond := [Cond.fieldLink RX2 7 "LinkEstablisherModel" "s" "[I", Cond.methodLink RX2 121 yX2_isThere, Cond.static yX2_isThere, Cond.initialized RX2, Cond.code yX2_isThere cX2_isThere 3 (some .boolean), Cond.methodLink RX2 44 yX2_arePair, Cond.static yX2_arePair, Cond.code yX2_arePair cX2_arePair 2 (some .boolean), Cond.methodLink RX2 37 yX2_isStation, Cond.static yX2_isStation, Cond.code yX2_isStation cX2_isStation 1 (some .boolean), Cond.methodLink RX2 33 yX2_in, Cond.static yX2_in, Cond.code yX2_in cX2_in 3 (some .boolean), Cond.methodLink RX2 48 yX2_isChannel, Cond.static yX2_isChannel, Cond.code yX2_isChannel cX2_isChannel 1 (some .boolean), Cond.methodLink RX2 51 yX2_at, Cond.static yX2_at, Cond.code yX2_at cX2_at 3 (some .int), Cond.methodLink RX2 29 yX2_fail, Cond.instanceMethod yX2_fail, Cond.selects RX2 yX2_fail yX2_fail, Cond.code yX2_fail cX2_fail 2 (some .int)]
def wsX2_score_r2 : List Cond := [Cond.fieldLink RX2 16 "LinkEstablisherModel" "errors" "[I"]
def wsX2_score : List Cond := .code yX2_score cX2_score 4 (some .int) :: ((wsX2_score_r1 ++ wsX2_score_r2) ++ wsX20)
def wsX2_effective_r1 : List Cond := [Cond.methodLink RX2 121 yX2_isThere, Cond.static yX2_isThere, Cond.initialized RX2, Cond.code yX2_isThere cX2_isThere 3 (some .boolean), Cond.methodLink RX2 44 yX2_arePair, Cond.static yX2_arePair, Cond.code yX2_arePair cX2_arePair 2 (some .boolean), Cond.methodLink RX2 37 yX2_isStation, Cond.static yX2_isStation, Cond.code yX2_isStation cX2_isStation 1 (some .boolean), Cond.methodLink RX2 33 yX2_in, Cond.static yX2_in, Cond.code yX2_in cX2_in 3 (some .boolean), Cond.methodLink RX2 48 yX2_isChannel, Cond.static yX2_isChannel, Cond.code yX2_isChannel cX2_isChannel 1 (some .boolean), Cond.methodLink RX2 92 yX2_effectiveOf, Cond.instanceMethod yX2_effectiveOf, Cond.selects RX2 yX2_effectiveOf yX2_effectiveOf, Cond.code yX2_effectiveOf cX2_effectiveOf 6 (some .int), Cond.fieldLink RX2 7 "LinkEstablisherModel" "s" "[I", Cond.methodLink RX2 51 yX2_at, Cond.static yX2_at, Cond.code yX2_at cX2_at 3 (some .int)]
def wsX2_effective_r2 : List Cond := [Cond.methodLink RX2 29 yX2_fail, Cond.instanceMethod yX2_fail, Cond.selects RX2 yX2_fail yX2_fail, Cond.code yX2_fail cX2_fail 2 (some .int), Cond.fieldLink RX2 16 "LinkEstablisherModel" "errors" "[I"]
def wsX2_effective : List Cond := .code yX2_effective cX2_effective 4 (some .int) :: ((wsX2_effective_r1 ++ wsX2_effective_r2) ++ wsX20)
def wsX2_bestChannel_r1 : List Cond := [Cond.fieldLink RX2 19 "LinkEstablisherModel" "order" "[I", Cond.methodLink RX2 44 yX2_arePair, Cond.static yX2_arePair, Cond.initialized RX2, Cond.code yX2_arePair cX2_arePair 2 (some .boolean), Cond.methodLink RX2 37 yX2_isStation, Cond.static yX2_isStation, Cond.code yX2_isStation cX2_isStation 1 (some .boolean), Cond.methodLink RX2 33 yX2_in, Cond.static yX2_in, Cond.code yX2_in cX2_in 3 (some .boolean), Cond.methodLink RX2 29 yX2_fail, Cond.instanceMethod yX2_fail, Cond.selects RX2 yX2_fail yX2_fail, Cond.code yX2_fail cX2_fail 2 (some .int), Cond.fieldLink RX2 16 "LinkEstablisherModel" "errors" "[I", Cond.methodLink RX2 95 yX2_sortChannels, Cond.instanceMethod yX2_sortChannels, Cond.selects RX2 yX2_sortChannels yX2_sortChannels, Cond.code yX2_sortChannels cX2_sortChannels 7 (some .int), Cond.fieldLink RX2 7 "LinkEstablisherModel" "s" "[I", Cond.fieldLink RX2 22 "LinkEstablisherModel" "rank" "[I", Cond.methodLink RX2 70 yX2_has, Cond.static yX2_has]
def wsX2_bestChannel_r2 : List Cond := [Cond.code yX2_has cX2_has 2 (some .boolean), Cond.methodLink RX2 92 yX2_effectiveOf, Cond.instanceMethod yX2_effectiveOf, Cond.selects RX2 yX2_effectiveOf yX2_effectiveOf, Cond.code yX2_effectiveOf cX2_effectiveOf 6 (some .int), Cond.methodLink RX2 51 yX2_at, Cond.static yX2_at, Cond.code yX2_at cX2_at 3 (some .int)]
def wsX2_bestChannel : List Cond := .code yX2_bestChannel cX2_bestChannel 4 (some .int) :: ((wsX2_bestChannel_r1 ++ wsX2_bestChannel_r2) ++ wsX20)
def wsX2_netChannel_r1 : List Cond := [Cond.methodLink RX2 108 yX2_isNet, Cond.static yX2_isNet, Cond.initialized RX2, Cond.code yX2_isNet cX2_isNet 2 (some .boolean), Cond.methodLink RX2 37 yX2_isStation, Cond.static yX2_isStation, Cond.code yX2_isStation cX2_isStation 1 (some .boolean), Cond.methodLink RX2 33 yX2_in, Cond.static yX2_in, Cond.code yX2_in cX2_in 3 (some .boolean), Cond.methodLink RX2 70 yX2_has, Cond.static yX2_has, Cond.code yX2_has cX2_has 2 (some .boolean), Cond.methodLink RX2 111 yX2_netChannelOf, Cond.instanceMethod yX2_netChannelOf, Cond.selects RX2 yX2_netChannelOf yX2_netChannelOf, Cond.code yX2_netChannelOf cX2_netChannelOf 6 (some .int), Cond.fieldLink RX2 7 "LinkEstablisherModel" "s" "[I", Cond.methodLink RX2 105 yX2_netScore, Cond.instanceMethod yX2_netScore, Cond.selects RX2 yX2_netScore yX2_netScore, Cond.code yX2_netScore cX2_netScore 7 (some .int), Cond.methodLink RX2 92 yX2_effectiveOf, Cond.instanceMethod yX2_effectiveOf]
def wsX2_netChannel_r2 : List Cond := [Cond.selects RX2 yX2_effectiveOf yX2_effectiveOf, Cond.code yX2_effectiveOf cX2_effectiveOf 6 (some .int), Cond.methodLink RX2 51 yX2_at, Cond.static yX2_at, Cond.code yX2_at cX2_at 3 (some .int), Cond.methodLink RX2 29 yX2_fail, Cond.instanceMethod yX2_fail, Cond.selects RX2 yX2_fail yX2_fail, Cond.code yX2_fail cX2_fail 2 (some .int), Cond.fieldLink RX2 16 "LinkEstablisherModel" "errors" "[I"]
def wsX2_netChannel : List Cond := .code yX2_netChannel cX2_netChannel 3 (some .int) :: ((wsX2_netChannel_r1 ++ wsX2_netChannel_r2) ++ wsX20)
def wsX2_link : List Cond := .code yX2_link cX2_link 2 (some .int) :: ([.fieldLink RX2 7 "LinkEstablisherModel" "s" "[I", .methodLink RX2 37 yX2_isStation, .static yX2_isStation, .initialized RX2, .code yX2_isStation cX2_isStation 1 (some .boolean), .methodLink RX2 33 yX2_in, .static yX2_in, .code yX2_in cX2_in 3 (some .boolean), .methodLink RX2 29 yX2_fail, .instanceMethod yX2_fail, .selects RX2 yX2_fail yX2_fail, .code yX2_fail cX2_fail 2 (some .int), .fieldLink RX2 16 "LinkEstablisherModel" "errors" "[I"] ++ wsX20)
def wsX2_linkChannel : List Cond := .code yX2_linkChannel cX2_linkChannel 2 (some .int) :: ([.fieldLink RX2 7 "LinkEstablisherModel" "s" "[I", .methodLink RX2 37 yX2_isStation, .static yX2_isStation, .initialized RX2, .code yX2_isStation cX2_isStation 1 (some .boolean), .methodLink RX2 33 yX2_in, .static yX2_in, .code yX2_in cX2_in 3 (some .boolean), .methodLink RX2 29 yX2_fail, .instanceMethod yX2_fail, .selects RX2 yX2_fail yX2_fail, .code yX2_fail cX2_fail 2 (some .int), .fieldLink RX2 16 "LinkEstablisherModel" "errors" "[I"] ++ wsX20)
def wsX2_time : List Cond := .code yX2_time cX2_time 1 (some .int) :: ([.fieldLink RX2 7 "LinkEstablisherModel" "s" "[I"] ++ wsX20)
def wsX2_transmitted : List Cond := .code yX2_transmitted cX2_transmitted 1 (some .int) :: ([.fieldLink RX2 7 "LinkEstablisherModel" "s" "[I"] ++ wsX20)
def wsX2_decoded : List Cond := .code yX2_decoded cX2_decoded 1 (some .int) :: ([.fieldLink RX2 7 "LinkEstablisherModel" "s" "[I"] ++ wsX20)
def wsX2_isWord : List Cond := .code yX2_isWord cX2_isWord 1 (some .boolean) :: ([.constant RX2 124 (16777215), .methodLink RX2 33 yX2_in, .static yX2_in, .initialized RX2, .code yX2_in cX2_in 3 (some .boolean)])
def wsX2_vote : List Cond := .code yX2_vote cX2_vote 4 (some .int) :: ([.methodLink RX2 125 yX2_isWord, .static yX2_isWord, .initialized RX2, .code yX2_isWord cX2_isWord 1 (some .boolean), .constant RX2 124 (16777215), .methodLink RX2 33 yX2_in, .static yX2_in, .code yX2_in cX2_in 3 (some .boolean), .methodLink RX2 73 yX2_majority, .static yX2_majority, .code yX2_majority cX2_majority 3 (some .int), .methodLink RX2 29 yX2_fail, .instanceMethod yX2_fail, .selects RX2 yX2_fail yX2_fail, .code yX2_fail cX2_fail 2 (some .int), .fieldLink RX2 16 "LinkEstablisherModel" "errors" "[I"] ++ wsX20)
def wsX2_errorCount : List Cond := .code yX2_errorCount cX2_errorCount 2 (some .int) :: ([.fieldLink RX2 16 "LinkEstablisherModel" "errors" "[I", .methodLink RX2 33 yX2_in, .static yX2_in, .initialized RX2, .code yX2_in cX2_in 3 (some .boolean), .methodLink RX2 29 yX2_fail, .instanceMethod yX2_fail, .selects RX2 yX2_fail yX2_fail, .code yX2_fail cX2_fail 2 (some .int)] ++ wsX20)
def wsX2_add : List Cond := .code yX2_add cX2_add 2 none :: ([.constantLong RX2 128 (31), .fieldLink RX2 130 "LinkEstablisherModel" "hash" "J"] ++ wsX20)
def wsX2_digest : List Cond := .code yX2_digest cX2_digest 4 (some .long) :: ([.constantLong RX2 134 (12164), .fieldLink RX2 130 "LinkEstablisherModel" "hash" "J", .fieldLink RX2 16 "LinkEstablisherModel" "errors" "[I", .fieldLink RX2 25 "LinkEstablisherModel" "pasts" "I", .fieldLink RX2 7 "LinkEstablisherModel" "s" "[I", .methodLink RX2 136 yX2_add, .instanceMethod yX2_add, .selects RX2 yX2_add yX2_add, .initialized RX2, .code yX2_add cX2_add 2 none, .constantLong RX2 128 (31), .methodLink RX2 92 yX2_effectiveOf, .instanceMethod yX2_effectiveOf, .selects RX2 yX2_effectiveOf yX2_effectiveOf, .code yX2_effectiveOf cX2_effectiveOf 6 (some .int), .methodLink RX2 51 yX2_at, .static yX2_at, .code yX2_at cX2_at 3 (some .int)] ++ wsX20)
def wsJ9_max_7cf53 : List Cond := .code yJ9_max_7cf53 cJ9_max_7cf53 2 (some .int) :: ([])
def wsJ9_min_7cf53 : List Cond := .code yJ9_min_7cf53 cJ9_min_7cf53 2 (some .int) :: ([])
def wsL_law_r1 : List Cond := [Cond.classLink RL 7 RX1, Cond.instantiable RX1 6, Cond.initialized RX1, Cond.classLink RL 10 RX2, Cond.instantiable RX2 7, Cond.initialized RX2, Cond.methodLink RL 9 yX1_init, Cond.instanceMethod yX1_init, Cond.code yX1_init cX1_init 2 none, Cond.methodLink RX1 3 objectInit, Cond.instanceMethod objectInit, Cond.code objectInit ⟨#[0xb1]⟩ 1 none, Cond.classLink RX1 9 RX0, Cond.instantiable RX0 16, Cond.initialized RX0, Cond.fieldLink RX1 12 "LinkEstablisher" "network" "LLinkEstablisher$Network;", Cond.fieldLink RX1 16 "LinkEstablisher" "savedStates" "[LLinkEstablisher$Network;", Cond.methodLink RX1 11 yX0_init, Cond.instanceMethod yX0_init, Cond.code yX0_init cX0_init 1 none, Cond.methodLink RX0 3 objectInit, Cond.fieldLink RX0 9 "LinkEstablisher$Network" "ageing" "I", Cond.fieldLink RX0 15 "LinkEstablisher$Network" "noise" "I", Cond.fieldLink RX0 18 "LinkEstablisher$Network" "callChannel" "I"]
def wsL_law_r2 : List Cond := [Cond.fieldLink RX0 21 "LinkEstablisher$Network" "wordUnanimous" "I", Cond.fieldLink RX0 24 "LinkEstablisher$Network" "wordVoted" "I", Cond.arrayClass .int, Cond.fieldLink RX0 27 "LinkEstablisher$Network" "scanSets" "[I", Cond.fieldLink RX0 31 "LinkEstablisher$Network" "linkSets" "[I", Cond.fieldLink RX0 34 "LinkEstablisher$Network" "linkChannels" "[I", Cond.fieldLink RX0 37 "LinkEstablisher$Network" "qualities" "[I", Cond.fieldLink RX0 40 "LinkEstablisher$Network" "scores" "[I", Cond.fieldLink RX0 43 "LinkEstablisher$Network" "scoreTimes" "[I", Cond.fieldLink RX0 46 "LinkEstablisher$Network" "channelRanks" "[I", Cond.methodLink RX0 49 yJ7_fill_53178, Cond.static yJ7_fill_53178, Cond.initialized RJ7, Cond.code yJ7_fill_53178 cJ7_fill_53178 4 none, Cond.methodLink RL 12 yX2_init, Cond.instanceMethod yX2_init, Cond.code yX2_init cX2_init 2 none, Cond.methodLink RX2 1 objectInit, Cond.fieldLink RX2 7 "LinkEstablisherModel" "s" "[I", Cond.fieldLink RX2 13 "LinkEstablisherModel" "past" "[I", Cond.fieldLink RX2 16 "LinkEstablisherModel" "errors" "[I", Cond.fieldLink RX2 19 "LinkEstablisherModel" "order" "[I", Cond.fieldLink RX2 22 "LinkEstablisherModel" "rank" "[I", Cond.methodLink RL 13 yX1_setScan]
def wsL_law_r3 : List Cond := [Cond.instanceMethod yX1_setScan, Cond.selects RX1 yX1_setScan yX1_setScan, Cond.code yX1_setScan cX1_setScan 4 (some .int), Cond.fieldLink RX1 31 "LinkEstablisher$Network" "scanSets" "[I", Cond.methodLink RX1 20 yX1_isStation, Cond.static yX1_isStation, Cond.code yX1_isStation cX1_isStation 1 (some .boolean), Cond.methodLink RX1 24 yX1_countInvalid, Cond.instanceMethod yX1_countInvalid, Cond.selects RX1 yX1_countInvalid yX1_countInvalid, Cond.code yX1_countInvalid cX1_countInvalid 1 (some .int), Cond.fieldLink RX1 138 "LinkEstablisher" "invalidCalls" "I", Cond.methodLink RX1 28 yX1_saveState, Cond.instanceMethod yX1_saveState, Cond.selects RX1 yX1_saveState yX1_saveState, Cond.code yX1_saveState cX1_saveState 1 none, Cond.fieldLink RX1 131 "LinkEstablisher" "nextSaved" "I", Cond.fieldLink RX1 128 "LinkEstablisher" "savedCount" "I", Cond.methodLink RX1 160 Lib.Math.min.name, Cond.static Lib.Math.min.name, Cond.initialized "java/lang/Math", Cond.code Lib.Math.min.name Lib.Math.min.code 2 (some .int), Cond.methodLink RX1 134 yX0_copyFrom, Cond.instanceMethod yX0_copyFrom]
def wsL_law_r4 : List Cond := [Cond.selects RX0 yX0_copyFrom yX0_copyFrom, Cond.code yX0_copyFrom cX0_copyFrom 2 none, Cond.fieldLink RX0 55 "LinkEstablisher$Network" "now" "I", Cond.fieldLink RX0 58 "LinkEstablisher$Network" "wordsSent" "I", Cond.fieldLink RX0 61 "LinkEstablisher$Network" "wordsDecoded" "I", Cond.fieldLink RX0 64 "LinkEstablisher$Network" "callAttempts" "I", Cond.methodLink RX0 67 arraycopyName, Cond.native arraycopyName, Cond.static arraycopyName, Cond.initialized "java/lang/System", Cond.methodLink RL 17 yX2_setScan, Cond.instanceMethod yX2_setScan, Cond.selects RX2 yX2_setScan yX2_setScan, Cond.code yX2_setScan cX2_setScan 4 (some .int), Cond.methodLink RX2 37 yX2_isStation, Cond.static yX2_isStation, Cond.code yX2_isStation cX2_isStation 1 (some .boolean), Cond.methodLink RX2 33 yX2_in, Cond.static yX2_in, Cond.code yX2_in cX2_in 3 (some .boolean), Cond.methodLink RX2 29 yX2_fail, Cond.instanceMethod yX2_fail, Cond.selects RX2 yX2_fail yX2_fail, Cond.code yX2_fail cX2_fail 2 (some .int)]
def wsL_law_r5 : List Cond := [Cond.methodLink RX2 41 yX2_note, Cond.instanceMethod yX2_note, Cond.selects RX2 yX2_note yX2_note, Cond.code yX2_note cX2_note 2 none, Cond.fieldLink RX2 25 "LinkEstablisherModel" "pasts" "I", Cond.methodLink RL 18 yX1_setQuality, Cond.instanceMethod yX1_setQuality, Cond.selects RX1 yX1_setQuality yX1_setQuality, Cond.code yX1_setQuality cX1_setQuality 6 (some .int), Cond.fieldLink RX1 39 "LinkEstablisher$Network" "qualities" "[I", Cond.methodLink RX1 35 yX1_isCell, Cond.static yX1_isCell, Cond.code yX1_isCell cX1_isCell 3 (some .boolean), Cond.methodLink RX1 69 yX1_isPair, Cond.static yX1_isPair, Cond.code yX1_isPair cX1_isPair 2 (some .boolean), Cond.methodLink RX1 56 yX1_isChannel, Cond.static yX1_isChannel, Cond.code yX1_isChannel cX1_isChannel 1 (some .boolean), Cond.methodLink RX1 42 yX1_cell, Cond.static yX1_cell, Cond.code yX1_cell cX1_cell 3 (some .int), Cond.methodLink RL 22 yX2_setQuality, Cond.instanceMethod yX2_setQuality]
def wsL_law_r6 : List Cond := [Cond.selects RX2 yX2_setQuality yX2_setQuality, Cond.code yX2_setQuality cX2_setQuality 6 (some .int), Cond.methodLink RX2 44 yX2_arePair, Cond.static yX2_arePair, Cond.code yX2_arePair cX2_arePair 2 (some .boolean), Cond.methodLink RX2 48 yX2_isChannel, Cond.static yX2_isChannel, Cond.code yX2_isChannel cX2_isChannel 1 (some .boolean), Cond.methodLink RX2 51 yX2_at, Cond.static yX2_at, Cond.code yX2_at cX2_at 3 (some .int), Cond.methodLink RL 23 yX1_setAgeing, Cond.instanceMethod yX1_setAgeing, Cond.selects RX1 yX1_setAgeing yX1_setAgeing, Cond.code yX1_setAgeing cX1_setAgeing 3 (some .int), Cond.fieldLink RX1 46 "LinkEstablisher$Network" "ageing" "I", Cond.methodLink RL 27 yX2_setAgeing, Cond.instanceMethod yX2_setAgeing, Cond.selects RX2 yX2_setAgeing yX2_setAgeing, Cond.code yX2_setAgeing cX2_setAgeing 3 (some .int), Cond.methodLink RL 28 yX1_setNoise, Cond.instanceMethod yX1_setNoise, Cond.selects RX1 yX1_setNoise yX1_setNoise, Cond.code yX1_setNoise cX1_setNoise 2 (some .int)]
def wsL_law_r7 : List Cond := [Cond.fieldLink RX1 50 "LinkEstablisher$Network" "noise" "I", Cond.fieldLink RX1 53 "LinkEstablisher$Network" "now" "I", Cond.methodLink RL 31 yX2_setNoise, Cond.instanceMethod yX2_setNoise, Cond.selects RX2 yX2_setNoise yX2_setNoise, Cond.code yX2_setNoise cX2_setNoise 2 (some .int), Cond.methodLink RL 32 yX1_pass, Cond.instanceMethod yX1_pass, Cond.selects RX1 yX1_pass yX1_pass, Cond.code yX1_pass cX1_pass 2 (some .int), Cond.methodLink RL 35 yX2_pass, Cond.instanceMethod yX2_pass, Cond.selects RX2 yX2_pass yX2_pass, Cond.code yX2_pass cX2_pass 2 (some .int), Cond.methodLink RL 36 yX1_sound, Cond.instanceMethod yX1_sound, Cond.selects RX1 yX1_sound yX1_sound, Cond.code yX1_sound cX1_sound 3 (some .int), Cond.methodLink RX1 59 yX0_isLinked, Cond.instanceMethod yX0_isLinked, Cond.selects RX0 yX0_isLinked yX0_isLinked, Cond.code yX0_isLinked cX0_isLinked 2 (some .boolean), Cond.methodLink RX1 62 yX1_countRejected, Cond.instanceMethod yX1_countRejected]
def wsL_law_r8 : List Cond := [Cond.selects RX1 yX1_countRejected yX1_countRejected, Cond.code yX1_countRejected cX1_countRejected 1 (some .int), Cond.fieldLink RX1 141 "LinkEstablisher" "rejectedCalls" "I", Cond.methodLink RX1 65 yX0_emitSounding, Cond.instanceMethod yX0_emitSounding, Cond.selects RX0 yX0_emitSounding yX0_emitSounding, Cond.code yX0_emitSounding cX0_emitSounding 5 (some .int), Cond.methodLink RX0 129 yX0_longestScan, Cond.instanceMethod yX0_longestScan, Cond.selects RX0 yX0_longestScan yX0_longestScan, Cond.code yX0_longestScan cX0_longestScan 4 (some .int), Cond.methodLink RX0 93 Lib.Math.max.name, Cond.static Lib.Math.max.name, Cond.code Lib.Math.max.name Lib.Math.max.code 2 (some .int), Cond.static yX1_contains, Cond.code yX1_contains cX1_contains 2 (some .boolean), Cond.methodLink RX0 73 yJ6_bitCount_0f7a4, Cond.static yJ6_bitCount_0f7a4, Cond.initialized RJ6, Cond.code yJ6_bitCount_0f7a4 cJ6_bitCount_0f7a4 1 (some .int), Cond.constant RJ6 265 (1431655765), Cond.constant RJ6 266 (858993459), Cond.constant RJ6 267 (252645135), Cond.methodLink RX0 132 yX0_hears]
def wsL_law_r9 : List Cond := [Cond.instanceMethod yX0_hears, Cond.selects RX0 yX0_hears yX0_hears, Cond.code yX0_hears cX0_hears 3 (some .boolean), Cond.methodLink RX0 79 yX0_isLinked, Cond.methodLink RX0 135 yX0_transmit, Cond.instanceMethod yX0_transmit, Cond.selects RX0 yX0_transmit yX0_transmit, Cond.code yX0_transmit cX0_transmit 11 (some .boolean), Cond.constant RX0 98 (65536), Cond.methodLink RX0 107 yX0_receiveCopy, Cond.instanceMethod yX0_receiveCopy, Cond.selects RX0 yX0_receiveCopy yX0_receiveCopy, Cond.code yX0_receiveCopy cX0_receiveCopy 5 (some .int), Cond.methodLink RX0 99 yX0_drawNoise, Cond.instanceMethod yX0_drawNoise, Cond.selects RX0 yX0_drawNoise yX0_drawNoise, Cond.code yX0_drawNoise cX0_drawNoise 1 (some .int), Cond.constant RX0 96 (1103515245), Cond.constant RX0 97 (2147483647), Cond.static yX1_majority, Cond.code yX1_majority cX1_majority 3 (some .int), Cond.methodLink RL 39 yX2_sound, Cond.instanceMethod yX2_sound, Cond.selects RX2 yX2_sound yX2_sound]
def wsL_law_r10 : List Cond := [Cond.code yX2_sound cX2_sound 8 (some .int), Cond.methodLink RX2 79 yX2_isLinked, Cond.instanceMethod yX2_isLinked, Cond.selects RX2 yX2_isLinked yX2_isLinked, Cond.code yX2_isLinked cX2_isLinked 2 (some .boolean), Cond.methodLink RX2 82 yX2_mostOf, Cond.instanceMethod yX2_mostOf, Cond.selects RX2 yX2_mostOf yX2_mostOf, Cond.code yX2_mostOf cX2_mostOf 5 (some .int), Cond.methodLink RX2 70 yX2_has, Cond.static yX2_has, Cond.code yX2_has cX2_has 2 (some .boolean), Cond.methodLink RX2 76 yX2_count, Cond.static yX2_count, Cond.code yX2_count cX2_count 3 (some .int), Cond.methodLink RX2 85 yX2_listens, Cond.instanceMethod yX2_listens, Cond.selects RX2 yX2_listens yX2_listens, Cond.code yX2_listens cX2_listens 5 (some .int), Cond.methodLink RX2 88 yX2_transmit, Cond.instanceMethod yX2_transmit, Cond.selects RX2 yX2_transmit yX2_transmit, Cond.code yX2_transmit cX2_transmit 14 (some .boolean), Cond.constant RX2 61 (65536)]
def wsL_law_r11 : List Cond := [Cond.methodLink RX2 66 yX2_copyOf, Cond.instanceMethod yX2_copyOf, Cond.selects RX2 yX2_copyOf yX2_copyOf, Cond.code yX2_copyOf cX2_copyOf 5 (some .int), Cond.methodLink RX2 62 yX2_draw, Cond.instanceMethod yX2_draw, Cond.selects RX2 yX2_draw yX2_draw, Cond.code yX2_draw cX2_draw 3 (some .int), Cond.constantLong RX2 55 (1103515245), Cond.constantLong RX2 57 (12345), Cond.constantLong RX2 59 (2147483648), Cond.methodLink RX2 73 yX2_majority, Cond.static yX2_majority, Cond.code yX2_majority cX2_majority 3 (some .int), Cond.methodLink RL 40 yX1_call, Cond.instanceMethod yX1_call, Cond.selects RX1 yX1_call yX1_call, Cond.code yX1_call cX1_call 3 (some .int), Cond.methodLink RX1 73 yX0_callOne, Cond.instanceMethod yX0_callOne, Cond.selects RX0 yX0_callOne yX0_callOne, Cond.code yX0_callOne cX0_callOne 6 (some .int), Cond.methodLink RX0 122 yX0_rankChannels, Cond.instanceMethod yX0_rankChannels]
def wsL_law_r12 : List Cond := [Cond.selects RX0 yX0_rankChannels yX0_rankChannels, Cond.code yX0_rankChannels cX0_rankChannels 4 none, Cond.methodLink RX0 119 yX0_netScore, Cond.instanceMethod yX0_netScore, Cond.selects RX0 yX0_netScore yX0_netScore, Cond.code yX0_netScore cX0_netScore 6 (some .int), Cond.methodLink RX0 116 Lib.Math.min.name, Cond.methodLink RX0 113 yX0_agedScore, Cond.instanceMethod yX0_agedScore, Cond.selects RX0 yX0_agedScore yX0_agedScore, Cond.code yX0_agedScore cX0_agedScore 6 (some .int), Cond.methodLink RX0 126 yX0_firstRanked, Cond.instanceMethod yX0_firstRanked, Cond.selects RX0 yX0_firstRanked yX0_firstRanked, Cond.code yX0_firstRanked cX0_firstRanked 4 (some .int), Cond.methodLink RX0 139 yX0_shakeHands, Cond.instanceMethod yX0_shakeHands, Cond.selects RX0 yX0_shakeHands yX0_shakeHands, Cond.code yX0_shakeHands cX0_shakeHands 4 (some .boolean), Cond.methodLink RX0 143 yX0_joinLink, Cond.instanceMethod yX0_joinLink, Cond.selects RX0 yX0_joinLink yX0_joinLink, Cond.code yX0_joinLink cX0_joinLink 4 none, Cond.methodLink RL 43 yX2_call]
def wsL_law_r13 : List Cond := [Cond.instanceMethod yX2_call, Cond.selects RX2 yX2_call yX2_call, Cond.code yX2_call cX2_call 5 (some .int), Cond.methodLink RX2 95 yX2_sortChannels, Cond.instanceMethod yX2_sortChannels, Cond.selects RX2 yX2_sortChannels yX2_sortChannels, Cond.code yX2_sortChannels cX2_sortChannels 7 (some .int), Cond.methodLink RX2 92 yX2_effectiveOf, Cond.instanceMethod yX2_effectiveOf, Cond.selects RX2 yX2_effectiveOf yX2_effectiveOf, Cond.code yX2_effectiveOf cX2_effectiveOf 6 (some .int), Cond.methodLink RX2 98 yX2_attempt, Cond.instanceMethod yX2_attempt, Cond.selects RX2 yX2_attempt yX2_attempt, Cond.code yX2_attempt cX2_attempt 4 (some .boolean), Cond.methodLink RX2 101 yX2_join, Cond.instanceMethod yX2_join, Cond.selects RX2 yX2_join yX2_join, Cond.code yX2_join cX2_join 4 none, Cond.methodLink RL 44 yX1_netCall, Cond.instanceMethod yX1_netCall, Cond.selects RX1 yX1_netCall yX1_netCall, Cond.code yX1_netCall cX1_netCall 3 (some .int), Cond.methodLink RX1 76 yX1_isNet]
def wsL_law_r14 : List Cond := [Cond.static yX1_isNet, Cond.code yX1_isNet cX1_isNet 2 (some .boolean), Cond.methodLink RX1 166 yX1_contains, Cond.methodLink RX1 79 yX0_callMany, Cond.instanceMethod yX0_callMany, Cond.selects RX0 yX0_callMany yX0_callMany, Cond.code yX0_callMany cX0_callMany 7 (some .int), Cond.methodLink RX0 146 yX0_preferredChannel, Cond.instanceMethod yX0_preferredChannel, Cond.selects RX0 yX0_preferredChannel yX0_preferredChannel, Cond.code yX0_preferredChannel cX0_preferredChannel 3 (some .int), Cond.methodLink RX0 149 yX0_answersNetCall, Cond.instanceMethod yX0_answersNetCall, Cond.selects RX0 yX0_answersNetCall yX0_answersNetCall, Cond.code yX0_answersNetCall cX0_answersNetCall 4 (some .boolean), Cond.methodLink RL 47 yX2_netCall, Cond.instanceMethod yX2_netCall, Cond.selects RX2 yX2_netCall yX2_netCall, Cond.code yX2_netCall cX2_netCall 7 (some .int), Cond.methodLink RX2 108 yX2_isNet, Cond.static yX2_isNet, Cond.code yX2_isNet cX2_isNet 2 (some .boolean), Cond.methodLink RX2 111 yX2_netChannelOf, Cond.instanceMethod yX2_netChannelOf]
def wsL_law_r15 : List Cond := [Cond.selects RX2 yX2_netChannelOf yX2_netChannelOf, Cond.code yX2_netChannelOf cX2_netChannelOf 6 (some .int), Cond.methodLink RX2 105 yX2_netScore, Cond.instanceMethod yX2_netScore, Cond.selects RX2 yX2_netScore yX2_netScore, Cond.code yX2_netScore cX2_netScore 7 (some .int), Cond.methodLink RX2 114 yX2_answers, Cond.instanceMethod yX2_answers, Cond.selects RX2 yX2_answers yX2_answers, Cond.code yX2_answers cX2_answers 4 (some .boolean), Cond.methodLink RL 48 yX1_hangUp, Cond.instanceMethod yX1_hangUp, Cond.selects RX1 yX1_hangUp yX1_hangUp, Cond.code yX1_hangUp cX1_hangUp 2 (some .int), Cond.methodLink RX1 82 yX0_leaveLink, Cond.instanceMethod yX0_leaveLink, Cond.selects RX0 yX0_leaveLink yX0_leaveLink, Cond.code yX0_leaveLink cX0_leaveLink 5 (some .int), Cond.methodLink RX0 152 yX0_dropLink, Cond.instanceMethod yX0_dropLink, Cond.selects RX0 yX0_dropLink yX0_dropLink, Cond.code yX0_dropLink cX0_dropLink 2 none, Cond.methodLink RL 51 yX2_hangUp, Cond.instanceMethod yX2_hangUp]
def wsL_law_r16 : List Cond := [Cond.selects RX2 yX2_hangUp yX2_hangUp, Cond.code yX2_hangUp cX2_hangUp 5 (some .int), Cond.methodLink RX2 117 yX2_leave, Cond.instanceMethod yX2_leave, Cond.selects RX2 yX2_leave yX2_leave, Cond.code yX2_leave cX2_leave 2 none, Cond.methodLink RL 52 yX1_attempts, Cond.instanceMethod yX1_attempts, Cond.selects RX1 yX1_attempts yX1_attempts, Cond.code yX1_attempts cX1_attempts 1 (some .int), Cond.fieldLink RX1 86 "LinkEstablisher$Network" "callAttempts" "I", Cond.methodLink RL 56 yX2_attempts, Cond.instanceMethod yX2_attempts, Cond.selects RX2 yX2_attempts yX2_attempts, Cond.code yX2_attempts cX2_attempts 1 (some .int), Cond.methodLink RL 57 yX1_lastChannel, Cond.instanceMethod yX1_lastChannel, Cond.selects RX1 yX1_lastChannel yX1_lastChannel, Cond.code yX1_lastChannel cX1_lastChannel 1 (some .int), Cond.fieldLink RX1 89 "LinkEstablisher$Network" "callChannel" "I", Cond.methodLink RL 60 yX2_lastChannel, Cond.instanceMethod yX2_lastChannel, Cond.selects RX2 yX2_lastChannel yX2_lastChannel, Cond.code yX2_lastChannel cX2_lastChannel 1 (some .int)]
def wsL_law_r17 : List Cond := [Cond.methodLink RL 61 yX1_lastUnanimous, Cond.instanceMethod yX1_lastUnanimous, Cond.selects RX1 yX1_lastUnanimous yX1_lastUnanimous, Cond.code yX1_lastUnanimous cX1_lastUnanimous 1 (some .int), Cond.fieldLink RX1 92 "LinkEstablisher$Network" "wordUnanimous" "I", Cond.methodLink RL 64 yX2_lastUnanimous, Cond.instanceMethod yX2_lastUnanimous, Cond.selects RX2 yX2_lastUnanimous yX2_lastUnanimous, Cond.code yX2_lastUnanimous cX2_lastUnanimous 1 (some .int), Cond.methodLink RL 65 yX1_lastVoted, Cond.instanceMethod yX1_lastVoted, Cond.selects RX1 yX1_lastVoted yX1_lastVoted, Cond.code yX1_lastVoted cX1_lastVoted 1 (some .int), Cond.fieldLink RX1 95 "LinkEstablisher$Network" "wordVoted" "I", Cond.methodLink RL 68 yX2_lastVoted, Cond.instanceMethod yX2_lastVoted, Cond.selects RX2 yX2_lastVoted yX2_lastVoted, Cond.code yX2_lastVoted cX2_lastVoted 1 (some .int), Cond.methodLink RL 69 yX1_scan, Cond.instanceMethod yX1_scan, Cond.selects RX1 yX1_scan yX1_scan, Cond.code yX1_scan cX1_scan 2 (some .int), Cond.methodLink RL 72 yX2_scan, Cond.instanceMethod yX2_scan]
def wsL_law_r18 : List Cond := [Cond.selects RX2 yX2_scan yX2_scan, Cond.code yX2_scan cX2_scan 2 (some .int), Cond.methodLink RL 73 yX1_listening, Cond.instanceMethod yX1_listening, Cond.selects RX1 yX1_listening yX1_listening, Cond.code yX1_listening cX1_listening 2 (some .int), Cond.methodLink RX1 98 yX0_scannedChannel, Cond.instanceMethod yX0_scannedChannel, Cond.selects RX0 yX0_scannedChannel yX0_scannedChannel, Cond.code yX0_scannedChannel cX0_scannedChannel 5 (some .int), Cond.methodLink RX0 83 yJ9_floorMod_7cf53, Cond.static yJ9_floorMod_7cf53, Cond.initialized RJ9, Cond.code yJ9_floorMod_7cf53 cJ9_floorMod_7cf53 3 (some .int), Cond.methodLink RL 76 yX2_listening, Cond.instanceMethod yX2_listening, Cond.selects RX2 yX2_listening yX2_listening, Cond.code yX2_listening cX2_listening 2 (some .int), Cond.methodLink RL 77 yX1_quality, Cond.instanceMethod yX1_quality, Cond.selects RX1 yX1_quality yX1_quality, Cond.code yX1_quality cX1_quality 4 (some .int), Cond.methodLink RL 81 yX2_quality, Cond.instanceMethod yX2_quality]
def wsL_law_r19 : List Cond := [Cond.selects RX2 yX2_quality yX2_quality, Cond.code yX2_quality cX2_quality 4 (some .int), Cond.methodLink RX2 121 yX2_isThere, Cond.static yX2_isThere, Cond.code yX2_isThere cX2_isThere 3 (some .boolean), Cond.methodLink RL 82 yX1_score, Cond.instanceMethod yX1_score, Cond.selects RX1 yX1_score yX1_score, Cond.code yX1_score cX1_score 4 (some .int), Cond.fieldLink RX1 101 "LinkEstablisher$Network" "scores" "[I", Cond.methodLink RL 85 yX2_score, Cond.instanceMethod yX2_score, Cond.selects RX2 yX2_score yX2_score, Cond.code yX2_score cX2_score 4 (some .int), Cond.methodLink RL 86 yX1_effective, Cond.instanceMethod yX1_effective, Cond.selects RX1 yX1_effective yX1_effective, Cond.code yX1_effective cX1_effective 4 (some .int), Cond.methodLink RX1 104 yX0_agedScore, Cond.methodLink RL 89 yX2_effective, Cond.instanceMethod yX2_effective, Cond.selects RX2 yX2_effective yX2_effective, Cond.code yX2_effective cX2_effective 4 (some .int), Cond.methodLink RL 90 yX1_bestChannel]
def wsL_law_r20 : List Cond := [Cond.instanceMethod yX1_bestChannel, Cond.selects RX1 yX1_bestChannel yX1_bestChannel, Cond.code yX1_bestChannel cX1_bestChannel 3 (some .int), Cond.methodLink RX1 107 yX0_preferredChannel, Cond.methodLink RL 93 yX2_bestChannel, Cond.instanceMethod yX2_bestChannel, Cond.selects RX2 yX2_bestChannel yX2_bestChannel, Cond.code yX2_bestChannel cX2_bestChannel 4 (some .int), Cond.methodLink RL 94 yX1_netChannel, Cond.instanceMethod yX1_netChannel, Cond.selects RX1 yX1_netChannel yX1_netChannel, Cond.code yX1_netChannel cX1_netChannel 3 (some .int), Cond.methodLink RL 97 yX2_netChannel, Cond.instanceMethod yX2_netChannel, Cond.selects RX2 yX2_netChannel yX2_netChannel, Cond.code yX2_netChannel cX2_netChannel 3 (some .int), Cond.methodLink RL 98 yX1_link, Cond.instanceMethod yX1_link, Cond.selects RX1 yX1_link yX1_link, Cond.code yX1_link cX1_link 2 (some .int), Cond.fieldLink RX1 110 "LinkEstablisher$Network" "linkSets" "[I", Cond.methodLink RL 101 yX2_link, Cond.instanceMethod yX2_link, Cond.selects RX2 yX2_link yX2_link]
def wsL_law_r21 : List Cond := [Cond.code yX2_link cX2_link 2 (some .int), Cond.methodLink RL 102 yX1_linkChannel, Cond.instanceMethod yX1_linkChannel, Cond.selects RX1 yX1_linkChannel yX1_linkChannel, Cond.code yX1_linkChannel cX1_linkChannel 2 (some .int), Cond.fieldLink RX1 113 "LinkEstablisher$Network" "linkChannels" "[I", Cond.methodLink RL 105 yX2_linkChannel, Cond.instanceMethod yX2_linkChannel, Cond.selects RX2 yX2_linkChannel yX2_linkChannel, Cond.code yX2_linkChannel cX2_linkChannel 2 (some .int), Cond.methodLink RL 106 yX1_time, Cond.instanceMethod yX1_time, Cond.selects RX1 yX1_time yX1_time, Cond.code yX1_time cX1_time 1 (some .int), Cond.methodLink RL 109 yX2_time, Cond.instanceMethod yX2_time, Cond.selects RX2 yX2_time yX2_time, Cond.code yX2_time cX2_time 1 (some .int), Cond.methodLink RL 110 yX1_transmitted, Cond.instanceMethod yX1_transmitted, Cond.selects RX1 yX1_transmitted yX1_transmitted, Cond.code yX1_transmitted cX1_transmitted 1 (some .int), Cond.fieldLink RX1 116 "LinkEstablisher$Network" "wordsSent" "I", Cond.methodLink RL 113 yX2_transmitted]
def wsL_law_r22 : List Cond := [Cond.instanceMethod yX2_transmitted, Cond.selects RX2 yX2_transmitted yX2_transmitted, Cond.code yX2_transmitted cX2_transmitted 1 (some .int), Cond.methodLink RL 114 yX1_decoded, Cond.instanceMethod yX1_decoded, Cond.selects RX1 yX1_decoded yX1_decoded, Cond.code yX1_decoded cX1_decoded 1 (some .int), Cond.fieldLink RX1 119 "LinkEstablisher$Network" "wordsDecoded" "I", Cond.methodLink RL 117 yX2_decoded, Cond.instanceMethod yX2_decoded, Cond.selects RX2 yX2_decoded yX2_decoded, Cond.code yX2_decoded cX2_decoded 1 (some .int), Cond.methodLink RL 118 yX1_vote, Cond.instanceMethod yX1_vote, Cond.selects RX1 yX1_vote yX1_vote, Cond.code yX1_vote cX1_vote 4 (some .int), Cond.methodLink RX1 122 yX1_isWord, Cond.static yX1_isWord, Cond.code yX1_isWord cX1_isWord 1 (some .boolean), Cond.constant RX1 165 (16777215), Cond.methodLink RX1 125 yX1_majority, Cond.methodLink RL 121 yX2_vote, Cond.instanceMethod yX2_vote, Cond.selects RX2 yX2_vote yX2_vote]
def wsL_law_r23 : List Cond := [Cond.code yX2_vote cX2_vote 4 (some .int), Cond.methodLink RX2 125 yX2_isWord, Cond.static yX2_isWord, Cond.code yX2_isWord cX2_isWord 1 (some .boolean), Cond.constant RX2 124 (16777215), Cond.methodLink RL 122 yX1_undo, Cond.instanceMethod yX1_undo, Cond.selects RX1 yX1_undo yX1_undo, Cond.code yX1_undo cX1_undo 1 (some .int), Cond.methodLink RL 125 yX2_undo, Cond.instanceMethod yX2_undo, Cond.selects RX2 yX2_undo yX2_undo, Cond.code yX2_undo cX2_undo 2 (some .int), Cond.methodLink RL 126 yX1_errorCount, Cond.instanceMethod yX1_errorCount, Cond.selects RX1 yX1_errorCount yX1_errorCount, Cond.code yX1_errorCount cX1_errorCount 2 (some .int), Cond.methodLink RL 129 yX2_errorCount, Cond.instanceMethod yX2_errorCount, Cond.selects RX2 yX2_errorCount yX2_errorCount, Cond.code yX2_errorCount cX2_errorCount 2 (some .int), Cond.methodLink RL 130 yX1_digest, Cond.instanceMethod yX1_digest, Cond.selects RX1 yX1_digest yX1_digest]
def wsL_law_r24 : List Cond := [Cond.code yX1_digest cX1_digest 3 (some .long), Cond.constantLong RX1 144 (12164), Cond.methodLink RX1 146 yX1_mix, Cond.static yX1_mix, Cond.code yX1_mix cX1_mix 4 (some .long), Cond.constantLong RX1 169 (31), Cond.methodLink RX1 150 yX0_mixCounters, Cond.instanceMethod yX0_mixCounters, Cond.selects RX0 yX0_mixCounters yX0_mixCounters, Cond.code yX0_mixCounters cX0_mixCounters 5 (some .long), Cond.methodLink RX1 154 yX0_mixStations, Cond.instanceMethod yX0_mixStations, Cond.selects RX0 yX0_mixStations yX0_mixStations, Cond.code yX0_mixStations cX0_mixStations 6 (some .long), Cond.methodLink RX1 157 yX0_mixScores, Cond.instanceMethod yX0_mixScores, Cond.selects RX0 yX0_mixScores yX0_mixScores, Cond.code yX0_mixScores cX0_mixScores 8 (some .long), Cond.methodLink RL 134 yX2_digest, Cond.instanceMethod yX2_digest, Cond.selects RX2 yX2_digest yX2_digest, Cond.code yX2_digest cX2_digest 4 (some .long), Cond.constantLong RX2 134 (12164), Cond.fieldLink RX2 130 "LinkEstablisherModel" "hash" "J"]
def wsL_law_r25 : List Cond := [Cond.methodLink RX2 136 yX2_add, Cond.instanceMethod yX2_add, Cond.selects RX2 yX2_add yX2_add, Cond.code yX2_add cX2_add 2 none, Cond.constantLong RX2 128 (31)]
def wsL_law : List Cond := (wsL_law_r1 ++ (wsL_law_r2 ++ (wsL_law_r3 ++ (wsL_law_r4 ++ (wsL_law_r5 ++ (wsL_law_r6 ++ (wsL_law_r7 ++ (wsL_law_r8 ++ (wsL_law_r9 ++ (wsL_law_r10 ++ (wsL_law_r11 ++ (wsL_law_r12 ++ (wsL_law_r13 ++ (wsL_law_r14 ++ (wsL_law_r15 ++ (wsL_law_r16 ++ (wsL_law_r17 ++ (wsL_law_r18 ++ (wsL_law_r19 ++ (wsL_law_r20 ++ (wsL_law_r21 ++ (wsL_law_r22 ++ (wsL_law_r23 ++ (wsL_law_r24 ++ wsL_law_r25)))))))))))))))))))))))) ++ wsX10 ++ wsX20 ++ wsX00 ++ ([] : List Cond)
theorem inlX0 : ∀ w ∈ wsX00, w ∈ wsL_law := fun _ h => List.mem_append_left _ (List.mem_append_right _ h)
theorem inlX1 : ∀ w ∈ wsX10, w ∈ wsL_law := fun _ h => List.mem_append_left _ (List.mem_append_left _ (List.mem_append_left _ (List.mem_append_right _ h)))
theorem inlX2 : ∀ w ∈ wsX20, w ∈ wsL_law := fun _ h => List.mem_append_left _ (List.mem_append_left _ (List.mem_append_right _ h))
abbrev vwCl : List vw_C := [(RX0, TX0, 16), (RX1, TX1, 6), (RX2, TX2, 7)]
end
section
set_option maxRecDepth 20000 in
theorem ggX0_init_J7_fill_53178 : GoodIn wsX0_init wsJ7_fill_53178 := goodIn_r _ [20] (by decide +kernel) (by decide +kernel)
set_option maxRecDepth 20000 in
theorem gX0_init_J7_fill_53178 : GoodIn wsX0_init (va_wsS RX0 49 yJ7_fill_53178 wsJ7_fill_53178) := goodIn_app (goodIn_of _ (by decide +kernel)) ggX0_init_J7_fill_53178
theorem dX0_init_0 : decode cX0_init 0 = .ok (.aload_n 0, 1) := by decide +kernel
theorem dX0_init_1 : decode cX0_init 1 = .ok (.invokespecial 3, 3) := by decide +kernel
theorem dX0_init_4 : decode cX0_init 4 = .ok (.aload_n 0, 1) := by decide +kernel
theorem dX0_init_5 : decode cX0_init 5 = .ok (.bipush 10, 2) := by decide +kernel
theorem dX0_init_7 : decode cX0_init 7 = .ok (.putfield 9, 3) := by decide +kernel
theorem dX0_init_10 : decode cX0_init 10 = .ok (.aload_n 0, 1) := by decide +kernel
theorem dX0_init_11 : decode cX0_init 11 = .ok (.iconst 1, 1) := by decide +kernel
theorem dX0_init_12 : decode cX0_init 12 = .ok (.putfield 15, 3) := by decide +kernel
theorem dX0_init_15 : decode cX0_init 15 = .ok (.aload_n 0, 1) := by decide +kernel
theorem dX0_init_16 : decode cX0_init 16 = .ok (.iconst (-1), 1) := by decide +kernel
theorem dX0_init_17 : decode cX0_init 17 = .ok (.putfield 18, 3) := by decide +kernel
theorem dX0_init_20 : decode cX0_init 20 = .ok (.aload_n 0, 1) := by decide +kernel
theorem dX0_init_21 : decode cX0_init 21 = .ok (.iconst (-1), 1) := by decide +kernel
theorem dX0_init_22 : decode cX0_init 22 = .ok (.putfield 21, 3) := by decide +kernel
theorem dX0_init_25 : decode cX0_init 25 = .ok (.aload_n 0, 1) := by decide +kernel
theorem dX0_init_26 : decode cX0_init 26 = .ok (.iconst (-1), 1) := by decide +kernel
theorem dX0_init_27 : decode cX0_init 27 = .ok (.putfield 24, 3) := by decide +kernel
theorem dX0_init_30 : decode cX0_init 30 = .ok (.aload_n 0, 1) := by decide +kernel
theorem dX0_init_31 : decode cX0_init 31 = .ok (.iconst 5, 1) := by decide +kernel
theorem dX0_init_32 : decode cX0_init 32 = .ok (.newarray .int, 2) := by decide +kernel
theorem dX0_init_34 : decode cX0_init 34 = .ok (.putfield 27, 3) := by decide +kernel
theorem dX0_init_37 : decode cX0_init 37 = .ok (.aload_n 0, 1) := by decide +kernel
theorem dX0_init_38 : decode cX0_init 38 = .ok (.iconst 5, 1) := by decide +kernel
theorem dX0_init_39 : decode cX0_init 39 = .ok (.newarray .int, 2) := by decide +kernel
theorem dX0_init_41 : decode cX0_init 41 = .ok (.putfield 31, 3) := by decide +kernel
theorem dX0_init_44 : decode cX0_init 44 = .ok (.aload_n 0, 1) := by decide +kernel
theorem dX0_init_45 : decode cX0_init 45 = .ok (.iconst 5, 1) := by decide +kernel
theorem dX0_init_46 : decode cX0_init 46 = .ok (.newarray .int, 2) := by decide +kernel
theorem dX0_init_48 : decode cX0_init 48 = .ok (.putfield 34, 3) := by decide +kernel
theorem dX0_init_51 : decode cX0_init 51 = .ok (.aload_n 0, 1) := by decide +kernel
theorem dX0_init_52 : decode cX0_init 52 = .ok (.sipush 200, 3) := by decide +kernel
theorem dX0_init_55 : decode cX0_init 55 = .ok (.newarray .int, 2) := by decide +kernel
theorem dX0_init_57 : decode cX0_init 57 = .ok (.putfield 37, 3) := by decide +kernel
theorem dX0_init_60 : decode cX0_init 60 = .ok (.aload_n 0, 1) := by decide +kernel
theorem dX0_init_61 : decode cX0_init 61 = .ok (.sipush 200, 3) := by decide +kernel
theorem dX0_init_64 : decode cX0_init 64 = .ok (.newarray .int, 2) := by decide +kernel
theorem dX0_init_66 : decode cX0_init 66 = .ok (.putfield 40, 3) := by decide +kernel
theorem dX0_init_69 : decode cX0_init 69 = .ok (.aload_n 0, 1) := by decide +kernel
theorem dX0_init_70 : decode cX0_init 70 = .ok (.sipush 200, 3) := by decide +kernel
theorem dX0_init_73 : decode cX0_init 73 = .ok (.newarray .int, 2) := by decide +kernel
theorem dX0_init_75 : decode cX0_init 75 = .ok (.putfield 43, 3) := by decide +kernel
theorem dX0_init_78 : decode cX0_init 78 = .ok (.aload_n 0, 1) := by decide +kernel
theorem dX0_init_79 : decode cX0_init 79 = .ok (.bipush 8, 2) := by decide +kernel
theorem dX0_init_81 : decode cX0_init 81 = .ok (.newarray .int, 2) := by decide +kernel
theorem dX0_init_83 : decode cX0_init 83 = .ok (.putfield 46, 3) := by decide +kernel
theorem dX0_init_86 : decode cX0_init 86 = .ok (.aload_n 0, 1) := by decide +kernel
theorem dX0_init_87 : decode cX0_init 87 = .ok (.getfield 27, 3) := by decide +kernel
theorem dX0_init_90 : decode cX0_init 90 = .ok (.sipush 255, 3) := by decide +kernel
theorem dX0_init_93 : decode cX0_init 93 = .ok (.invokestatic 49, 3) := by decide +kernel
theorem dX0_init_96 : decode cX0_init 96 = .ok (.aload_n 0, 1) := by decide +kernel
theorem dX0_init_97 : decode cX0_init 97 = .ok (.getfield 34, 3) := by decide +kernel
theorem dX0_init_100 : decode cX0_init 100 = .ok (.iconst (-1), 1) := by decide +kernel
theorem dX0_init_101 : decode cX0_init 101 = .ok (.invokestatic 49, 3) := by decide +kernel
theorem dX0_init_104 : decode cX0_init 104 = .ok (.aload_n 0, 1) := by decide +kernel
theorem dX0_init_105 : decode cX0_init 105 = .ok (.getfield 37, 3) := by decide +kernel
theorem dX0_init_108 : decode cX0_init 108 = .ok (.bipush 15, 2) := by decide +kernel
theorem dX0_init_110 : decode cX0_init 110 = .ok (.invokestatic 49, 3) := by decide +kernel
theorem dX0_init_113 : decode cX0_init 113 = .ok (.aload_n 0, 1) := by decide +kernel
theorem dX0_init_114 : decode cX0_init 114 = .ok (.getfield 40, 3) := by decide +kernel
theorem dX0_init_117 : decode cX0_init 117 = .ok (.iconst (-1), 1) := by decide +kernel
theorem dX0_init_118 : decode cX0_init 118 = .ok (.invokestatic 49, 3) := by decide +kernel
theorem dX0_init_121 : decode cX0_init 121 = .ok (.return_, 1) := by decide +kernel
theorem dX0_copyFrom_0 : decode cX0_copyFrom 0 = .ok (.aload_n 0, 1) := by decide +kernel
theorem dX0_copyFrom_1 : decode cX0_copyFrom 1 = .ok (.aload_n 1, 1) := by decide +kernel
theorem dX0_copyFrom_2 : decode cX0_copyFrom 2 = .ok (.getfield 55, 3) := by decide +kernel
theorem dX0_copyFrom_5 : decode cX0_copyFrom 5 = .ok (.putfield 55, 3) := by decide +kernel
theorem dX0_copyFrom_8 : decode cX0_copyFrom 8 = .ok (.aload_n 0, 1) := by decide +kernel
theorem dX0_copyFrom_9 : decode cX0_copyFrom 9 = .ok (.aload_n 1, 1) := by decide +kernel
theorem dX0_copyFrom_10 : decode cX0_copyFrom 10 = .ok (.getfield 9, 3) := by decide +kernel
theorem dX0_copyFrom_13 : decode cX0_copyFrom 13 = .ok (.putfield 9, 3) := by decide +kernel
theorem dX0_copyFrom_16 : decode cX0_copyFrom 16 = .ok (.aload_n 0, 1) := by decide +kernel
theorem dX0_copyFrom_17 : decode cX0_copyFrom 17 = .ok (.aload_n 1, 1) := by decide +kernel
theorem dX0_copyFrom_18 : decode cX0_copyFrom 18 = .ok (.getfield 15, 3) := by decide +kernel
theorem dX0_copyFrom_21 : decode cX0_copyFrom 21 = .ok (.putfield 15, 3) := by decide +kernel
theorem dX0_copyFrom_24 : decode cX0_copyFrom 24 = .ok (.aload_n 0, 1) := by decide +kernel
theorem dX0_copyFrom_25 : decode cX0_copyFrom 25 = .ok (.aload_n 1, 1) := by decide +kernel
theorem dX0_copyFrom_26 : decode cX0_copyFrom 26 = .ok (.getfield 58, 3) := by decide +kernel
theorem dX0_copyFrom_29 : decode cX0_copyFrom 29 = .ok (.putfield 58, 3) := by decide +kernel
theorem dX0_copyFrom_32 : decode cX0_copyFrom 32 = .ok (.aload_n 0, 1) := by decide +kernel
theorem dX0_copyFrom_33 : decode cX0_copyFrom 33 = .ok (.aload_n 1, 1) := by decide +kernel
theorem dX0_copyFrom_34 : decode cX0_copyFrom 34 = .ok (.getfield 61, 3) := by decide +kernel
theorem dX0_copyFrom_37 : decode cX0_copyFrom 37 = .ok (.putfield 61, 3) := by decide +kernel
theorem dX0_copyFrom_40 : decode cX0_copyFrom 40 = .ok (.aload_n 0, 1) := by decide +kernel
theorem dX0_copyFrom_41 : decode cX0_copyFrom 41 = .ok (.aload_n 1, 1) := by decide +kernel
theorem dX0_copyFrom_42 : decode cX0_copyFrom 42 = .ok (.getfield 64, 3) := by decide +kernel
theorem dX0_copyFrom_45 : decode cX0_copyFrom 45 = .ok (.putfield 64, 3) := by decide +kernel
theorem dX0_copyFrom_48 : decode cX0_copyFrom 48 = .ok (.aload_n 0, 1) := by decide +kernel
theorem dX0_copyFrom_49 : decode cX0_copyFrom 49 = .ok (.aload_n 1, 1) := by decide +kernel
theorem dX0_copyFrom_50 : decode cX0_copyFrom 50 = .ok (.getfield 18, 3) := by decide +kernel
theorem dX0_copyFrom_53 : decode cX0_copyFrom 53 = .ok (.putfield 18, 3) := by decide +kernel
theorem dX0_copyFrom_56 : decode cX0_copyFrom 56 = .ok (.aload_n 0, 1) := by decide +kernel
theorem dX0_copyFrom_57 : decode cX0_copyFrom 57 = .ok (.aload_n 1, 1) := by decide +kernel
theorem dX0_copyFrom_58 : decode cX0_copyFrom 58 = .ok (.getfield 21, 3) := by decide +kernel
theorem dX0_copyFrom_61 : decode cX0_copyFrom 61 = .ok (.putfield 21, 3) := by decide +kernel
theorem dX0_copyFrom_64 : decode cX0_copyFrom 64 = .ok (.aload_n 0, 1) := by decide +kernel
theorem dX0_copyFrom_65 : decode cX0_copyFrom 65 = .ok (.aload_n 1, 1) := by decide +kernel
theorem dX0_copyFrom_66 : decode cX0_copyFrom 66 = .ok (.getfield 24, 3) := by decide +kernel
theorem dX0_copyFrom_69 : decode cX0_copyFrom 69 = .ok (.putfield 24, 3) := by decide +kernel
theorem dX0_copyFrom_72 : decode cX0_copyFrom 72 = .ok (.aload_n 1, 1) := by decide +kernel
theorem dX0_copyFrom_73 : decode cX0_copyFrom 73 = .ok (.getfield 27, 3) := by decide +kernel
theorem dX0_copyFrom_76 : decode cX0_copyFrom 76 = .ok (.iconst 0, 1) := by decide +kernel
theorem dX0_copyFrom_77 : decode cX0_copyFrom 77 = .ok (.aload_n 0, 1) := by decide +kernel
theorem dX0_copyFrom_78 : decode cX0_copyFrom 78 = .ok (.getfield 27, 3) := by decide +kernel
theorem dX0_copyFrom_81 : decode cX0_copyFrom 81 = .ok (.iconst 0, 1) := by decide +kernel
theorem dX0_copyFrom_82 : decode cX0_copyFrom 82 = .ok (.iconst 5, 1) := by decide +kernel
theorem dX0_copyFrom_83 : decode cX0_copyFrom 83 = .ok (.invokestatic 67, 3) := by decide +kernel
theorem dX0_copyFrom_86 : decode cX0_copyFrom 86 = .ok (.aload_n 1, 1) := by decide +kernel
theorem dX0_copyFrom_87 : decode cX0_copyFrom 87 = .ok (.getfield 31, 3) := by decide +kernel
theorem dX0_copyFrom_90 : decode cX0_copyFrom 90 = .ok (.iconst 0, 1) := by decide +kernel
theorem dX0_copyFrom_91 : decode cX0_copyFrom 91 = .ok (.aload_n 0, 1) := by decide +kernel
theorem dX0_copyFrom_92 : decode cX0_copyFrom 92 = .ok (.getfield 31, 3) := by decide +kernel
theorem dX0_copyFrom_95 : decode cX0_copyFrom 95 = .ok (.iconst 0, 1) := by decide +kernel
theorem dX0_copyFrom_96 : decode cX0_copyFrom 96 = .ok (.iconst 5, 1) := by decide +kernel
theorem dX0_copyFrom_97 : decode cX0_copyFrom 97 = .ok (.invokestatic 67, 3) := by decide +kernel
theorem dX0_copyFrom_100 : decode cX0_copyFrom 100 = .ok (.aload_n 1, 1) := by decide +kernel
theorem dX0_copyFrom_101 : decode cX0_copyFrom 101 = .ok (.getfield 34, 3) := by decide +kernel
theorem dX0_copyFrom_104 : decode cX0_copyFrom 104 = .ok (.iconst 0, 1) := by decide +kernel
theorem dX0_copyFrom_105 : decode cX0_copyFrom 105 = .ok (.aload_n 0, 1) := by decide +kernel
theorem dX0_copyFrom_106 : decode cX0_copyFrom 106 = .ok (.getfield 34, 3) := by decide +kernel
theorem dX0_copyFrom_109 : decode cX0_copyFrom 109 = .ok (.iconst 0, 1) := by decide +kernel
theorem dX0_copyFrom_110 : decode cX0_copyFrom 110 = .ok (.iconst 5, 1) := by decide +kernel
theorem dX0_copyFrom_111 : decode cX0_copyFrom 111 = .ok (.invokestatic 67, 3) := by decide +kernel
theorem dX0_copyFrom_114 : decode cX0_copyFrom 114 = .ok (.aload_n 1, 1) := by decide +kernel
theorem dX0_copyFrom_115 : decode cX0_copyFrom 115 = .ok (.getfield 37, 3) := by decide +kernel
theorem dX0_copyFrom_118 : decode cX0_copyFrom 118 = .ok (.iconst 0, 1) := by decide +kernel
theorem dX0_copyFrom_119 : decode cX0_copyFrom 119 = .ok (.aload_n 0, 1) := by decide +kernel
theorem dX0_copyFrom_120 : decode cX0_copyFrom 120 = .ok (.getfield 37, 3) := by decide +kernel
theorem dX0_copyFrom_123 : decode cX0_copyFrom 123 = .ok (.iconst 0, 1) := by decide +kernel
theorem dX0_copyFrom_124 : decode cX0_copyFrom 124 = .ok (.sipush 200, 3) := by decide +kernel
theorem dX0_copyFrom_127 : decode cX0_copyFrom 127 = .ok (.invokestatic 67, 3) := by decide +kernel
theorem dX0_copyFrom_130 : decode cX0_copyFrom 130 = .ok (.aload_n 1, 1) := by decide +kernel
theorem dX0_copyFrom_131 : decode cX0_copyFrom 131 = .ok (.getfield 40, 3) := by decide +kernel
theorem dX0_copyFrom_134 : decode cX0_copyFrom 134 = .ok (.iconst 0, 1) := by decide +kernel
theorem dX0_copyFrom_135 : decode cX0_copyFrom 135 = .ok (.aload_n 0, 1) := by decide +kernel
theorem dX0_copyFrom_136 : decode cX0_copyFrom 136 = .ok (.getfield 40, 3) := by decide +kernel
theorem dX0_copyFrom_139 : decode cX0_copyFrom 139 = .ok (.iconst 0, 1) := by decide +kernel
theorem dX0_copyFrom_140 : decode cX0_copyFrom 140 = .ok (.sipush 200, 3) := by decide +kernel
theorem dX0_copyFrom_143 : decode cX0_copyFrom 143 = .ok (.invokestatic 67, 3) := by decide +kernel
theorem dX0_copyFrom_146 : decode cX0_copyFrom 146 = .ok (.aload_n 1, 1) := by decide +kernel
theorem dX0_copyFrom_147 : decode cX0_copyFrom 147 = .ok (.getfield 43, 3) := by decide +kernel
theorem dX0_copyFrom_150 : decode cX0_copyFrom 150 = .ok (.iconst 0, 1) := by decide +kernel
theorem dX0_copyFrom_151 : decode cX0_copyFrom 151 = .ok (.aload_n 0, 1) := by decide +kernel
theorem dX0_copyFrom_152 : decode cX0_copyFrom 152 = .ok (.getfield 43, 3) := by decide +kernel
theorem dX0_copyFrom_155 : decode cX0_copyFrom 155 = .ok (.iconst 0, 1) := by decide +kernel
theorem dX0_copyFrom_156 : decode cX0_copyFrom 156 = .ok (.sipush 200, 3) := by decide +kernel
theorem dX0_copyFrom_159 : decode cX0_copyFrom 159 = .ok (.invokestatic 67, 3) := by decide +kernel
theorem dX0_copyFrom_162 : decode cX0_copyFrom 162 = .ok (.return_, 1) := by decide +kernel
theorem dX0_isLinked_0 : decode cX0_isLinked 0 = .ok (.aload_n 0, 1) := by decide +kernel
theorem dX0_isLinked_1 : decode cX0_isLinked 1 = .ok (.getfield 31, 3) := by decide +kernel
theorem dX0_isLinked_4 : decode cX0_isLinked 4 = .ok (.iload_n 1, 1) := by decide +kernel
theorem dX0_isLinked_5 : decode cX0_isLinked 5 = .ok (.iaload, 1) := by decide +kernel
theorem dX0_isLinked_6 : decode cX0_isLinked 6 = .ok (.ifCond .eq 7, 3) := by decide +kernel
theorem dX0_isLinked_9 : decode cX0_isLinked 9 = .ok (.iconst 1, 1) := by decide +kernel
theorem dX0_isLinked_10 : decode cX0_isLinked 10 = .ok (.goto 4, 3) := by decide +kernel
theorem dX0_isLinked_13 : decode cX0_isLinked 13 = .ok (.iconst 0, 1) := by decide +kernel
theorem dX0_isLinked_14 : decode cX0_isLinked 14 = .ok (.ireturn, 1) := by decide +kernel
set_option maxRecDepth 20000 in
theorem ggX0_scannedChannel_J6_bitCount_0f7a4 : GoodIn wsX0_scannedChannel wsJ6_bitCount_0f7a4 := goodIn_r _ [6, 7, 8, 9] (by decide +kernel) (by decide +kernel)
set_option maxRecDepth 20000 in
theorem gX0_scannedChannel_J6_bitCount_0f7a4 : GoodIn wsX0_scannedChannel (va_wsS RX0 73 yJ6_bitCount_0f7a4 wsJ6_bitCount_0f7a4) := goodIn_app (goodIn_of _ (by decide +kernel)) ggX0_scannedChannel_J6_bitCount_0f7a4
set_option maxRecDepth 20000 in
theorem ggX0_scannedChannel_X0_isLinked : GoodIn wsX0_scannedChannel wsX0_isLinked := goodIn_r _ [14, 15, 23, 24, 25, 26, 27, 28, 29, 30, 31, 32, 33, 34, 35, 36, 37, 38] (by decide +kernel) (by decide +kernel)
set_option maxRecDepth 20000 in
theorem gX0_scannedChannel_X0_isLinked : GoodIn wsX0_scannedChannel (wsV RX0 79 RX0 yX0_isLinked wsX0_isLinked) := goodIn_app (goodIn_of _ (by decide +kernel)) ggX0_scannedChannel_X0_isLinked
set_option maxRecDepth 20000 in
theorem ggX0_scannedChannel_J9_floorMod_7cf53 : GoodIn wsX0_scannedChannel wsJ9_floorMod_7cf53 := goodIn_r _ [19] (by decide +kernel) (by decide +kernel)
set_option maxRecDepth 20000 in
theorem gX0_scannedChannel_J9_floorMod_7cf53 : GoodIn wsX0_scannedChannel (va_wsS RX0 83 yJ9_floorMod_7cf53 wsJ9_floorMod_7cf53) := goodIn_app (goodIn_of _ (by decide +kernel)) ggX0_scannedChannel_J9_floorMod_7cf53
set_option maxRecDepth 20000 in
theorem ggX0_scannedChannel_X1_contains : GoodIn wsX0_scannedChannel wsX1_contains := goodIn_r _ [22] (by decide +kernel) (by decide +kernel)
set_option maxRecDepth 20000 in
theorem gX0_scannedChannel_X1_contains_n89 : GoodIn wsX0_scannedChannel (wsX1_contains) := ggX0_scannedChannel_X1_contains
theorem dX0_scannedChannel_0 : decode cX0_scannedChannel 0 = .ok (.aload_n 0, 1) := by decide +kernel
theorem dX0_scannedChannel_1 : decode cX0_scannedChannel 1 = .ok (.getfield 27, 3) := by decide +kernel
theorem dX0_scannedChannel_4 : decode cX0_scannedChannel 4 = .ok (.iload_n 1, 1) := by decide +kernel
theorem dX0_scannedChannel_5 : decode cX0_scannedChannel 5 = .ok (.iaload, 1) := by decide +kernel
theorem dX0_scannedChannel_6 : decode cX0_scannedChannel 6 = .ok (.invokestatic 73, 3) := by decide +kernel
theorem dX0_scannedChannel_9 : decode cX0_scannedChannel 9 = .ok (.istore_n 2, 1) := by decide +kernel
theorem dX0_scannedChannel_10 : decode cX0_scannedChannel 10 = .ok (.aload_n 0, 1) := by decide +kernel
theorem dX0_scannedChannel_11 : decode cX0_scannedChannel 11 = .ok (.iload_n 1, 1) := by decide +kernel
theorem dX0_scannedChannel_12 : decode cX0_scannedChannel 12 = .ok (.invokevirtual 79, 3) := by decide +kernel
theorem dX0_scannedChannel_15 : decode cX0_scannedChannel 15 = .ok (.ifCond .ne 7, 3) := by decide +kernel
theorem dX0_scannedChannel_18 : decode cX0_scannedChannel 18 = .ok (.iload_n 2, 1) := by decide +kernel
theorem dX0_scannedChannel_19 : decode cX0_scannedChannel 19 = .ok (.ifCond .ne 5, 3) := by decide +kernel
theorem dX0_scannedChannel_22 : decode cX0_scannedChannel 22 = .ok (.iconst (-1), 1) := by decide +kernel
theorem dX0_scannedChannel_23 : decode cX0_scannedChannel 23 = .ok (.ireturn, 1) := by decide +kernel
theorem dX0_scannedChannel_24 : decode cX0_scannedChannel 24 = .ok (.aload_n 0, 1) := by decide +kernel
theorem dX0_scannedChannel_25 : decode cX0_scannedChannel 25 = .ok (.getfield 55, 3) := by decide +kernel
theorem dX0_scannedChannel_28 : decode cX0_scannedChannel 28 = .ok (.iload_n 2, 1) := by decide +kernel
theorem dX0_scannedChannel_29 : decode cX0_scannedChannel 29 = .ok (.invokestatic 83, 3) := by decide +kernel
theorem dX0_scannedChannel_32 : decode cX0_scannedChannel 32 = .ok (.istore_n 3, 1) := by decide +kernel
theorem dX0_scannedChannel_33 : decode cX0_scannedChannel 33 = .ok (.iconst 0, 1) := by decide +kernel
theorem dX0_scannedChannel_34 : decode cX0_scannedChannel 34 = .ok (.istore 4, 2) := by decide +kernel
theorem dX0_scannedChannel_36 : decode cX0_scannedChannel 36 = .ok (.iload 4, 2) := by decide +kernel
theorem dX0_scannedChannel_38 : decode cX0_scannedChannel 38 = .ok (.bipush 8, 2) := by decide +kernel
theorem dX0_scannedChannel_40 : decode cX0_scannedChannel 40 = .ok (.if_icmp .ge 33, 3) := by decide +kernel
theorem dX0_scannedChannel_43 : decode cX0_scannedChannel 43 = .ok (.aload_n 0, 1) := by decide +kernel
theorem dX0_scannedChannel_44 : decode cX0_scannedChannel 44 = .ok (.getfield 27, 3) := by decide +kernel
theorem dX0_scannedChannel_47 : decode cX0_scannedChannel 47 = .ok (.iload_n 1, 1) := by decide +kernel
theorem dX0_scannedChannel_48 : decode cX0_scannedChannel 48 = .ok (.iaload, 1) := by decide +kernel
theorem dX0_scannedChannel_49 : decode cX0_scannedChannel 49 = .ok (.iload 4, 2) := by decide +kernel
theorem dX0_scannedChannel_51 : decode cX0_scannedChannel 51 = .ok (.invokestatic 89, 3) := by decide +kernel
theorem dX0_scannedChannel_54 : decode cX0_scannedChannel 54 = .ok (.ifCond .eq 13, 3) := by decide +kernel
theorem dX0_scannedChannel_57 : decode cX0_scannedChannel 57 = .ok (.iload_n 3, 1) := by decide +kernel
theorem dX0_scannedChannel_58 : decode cX0_scannedChannel 58 = .ok (.ifCond .ne 6, 3) := by decide +kernel
theorem dX0_scannedChannel_61 : decode cX0_scannedChannel 61 = .ok (.iload 4, 2) := by decide +kernel
theorem dX0_scannedChannel_63 : decode cX0_scannedChannel 63 = .ok (.ireturn, 1) := by decide +kernel
theorem dX0_scannedChannel_64 : decode cX0_scannedChannel 64 = .ok (.iinc 3 (-1), 3) := by decide +kernel
theorem dX0_scannedChannel_67 : decode cX0_scannedChannel 67 = .ok (.iinc 4 1, 3) := by decide +kernel
theorem dX0_scannedChannel_70 : decode cX0_scannedChannel 70 = .ok (.goto (-34), 3) := by decide +kernel
theorem dX0_scannedChannel_73 : decode cX0_scannedChannel 73 = .ok (.iconst (-1), 1) := by decide +kernel
theorem dX0_scannedChannel_74 : decode cX0_scannedChannel 74 = .ok (.ireturn, 1) := by decide +kernel
set_option maxRecDepth 20000 in
theorem ggX0_hears_X0_isLinked : GoodIn wsX0_hears wsX0_isLinked := goodIn_r _ [6, 7, 11, 12, 13, 14, 15, 16, 17, 18, 19, 20, 21, 22, 23, 24, 25, 26] (by decide +kernel) (by decide +kernel)
set_option maxRecDepth 20000 in
theorem gX0_hears_X0_isLinked : GoodIn wsX0_hears (wsV RX0 79 RX0 yX0_isLinked wsX0_isLinked) := goodIn_app (goodIn_of _ (by decide +kernel)) ggX0_hears_X0_isLinked
set_option maxRecDepth 20000 in
theorem ggX0_hears_X1_contains : GoodIn wsX0_hears wsX1_contains := goodIn_r _ [10] (by decide +kernel) (by decide +kernel)
set_option maxRecDepth 20000 in
theorem gX0_hears_X1_contains_n89 : GoodIn wsX0_hears (wsX1_contains) := ggX0_hears_X1_contains
theorem dX0_hears_0 : decode cX0_hears 0 = .ok (.aload_n 0, 1) := by decide +kernel
theorem dX0_hears_1 : decode cX0_hears 1 = .ok (.iload_n 1, 1) := by decide +kernel
theorem dX0_hears_2 : decode cX0_hears 2 = .ok (.invokevirtual 79, 3) := by decide +kernel
theorem dX0_hears_5 : decode cX0_hears 5 = .ok (.ifCond .ne 20, 3) := by decide +kernel
theorem dX0_hears_8 : decode cX0_hears 8 = .ok (.aload_n 0, 1) := by decide +kernel
theorem dX0_hears_9 : decode cX0_hears 9 = .ok (.getfield 27, 3) := by decide +kernel
theorem dX0_hears_12 : decode cX0_hears 12 = .ok (.iload_n 1, 1) := by decide +kernel
theorem dX0_hears_13 : decode cX0_hears 13 = .ok (.iaload, 1) := by decide +kernel
theorem dX0_hears_14 : decode cX0_hears 14 = .ok (.iload_n 2, 1) := by decide +kernel
theorem dX0_hears_15 : decode cX0_hears 15 = .ok (.invokestatic 89, 3) := by decide +kernel
theorem dX0_hears_18 : decode cX0_hears 18 = .ok (.ifCond .eq 7, 3) := by decide +kernel
theorem dX0_hears_21 : decode cX0_hears 21 = .ok (.iconst 1, 1) := by decide +kernel
theorem dX0_hears_22 : decode cX0_hears 22 = .ok (.goto 4, 3) := by decide +kernel
theorem dX0_hears_25 : decode cX0_hears 25 = .ok (.iconst 0, 1) := by decide +kernel
theorem dX0_hears_26 : decode cX0_hears 26 = .ok (.ireturn, 1) := by decide +kernel
set_option maxRecDepth 20000 in
theorem ggX0_longestScan_X1_contains : GoodIn wsX0_longestScan wsX1_contains := goodIn_r _ [8] (by decide +kernel) (by decide +kernel)
set_option maxRecDepth 20000 in
theorem gX0_longestScan_X1_contains_n89 : GoodIn wsX0_longestScan (wsX1_contains) := ggX0_longestScan_X1_contains
set_option maxRecDepth 20000 in
theorem ggX0_longestScan_J6_bitCount_0f7a4 : GoodIn wsX0_longestScan wsJ6_bitCount_0f7a4 := goodIn_r _ [12, 13, 14, 15] (by decide +kernel) (by decide +kernel)
set_option maxRecDepth 20000 in
theorem gX0_longestScan_J6_bitCount_0f7a4 : GoodIn wsX0_longestScan (va_wsS RX0 73 yJ6_bitCount_0f7a4 wsJ6_bitCount_0f7a4) := goodIn_app (goodIn_of _ (by decide +kernel)) ggX0_longestScan_J6_bitCount_0f7a4
theorem dX0_longestScan_0 : decode cX0_longestScan 0 = .ok (.iconst 0, 1) := by decide +kernel
theorem dX0_longestScan_1 : decode cX0_longestScan 1 = .ok (.istore_n 2, 1) := by decide +kernel
theorem dX0_longestScan_2 : decode cX0_longestScan 2 = .ok (.iconst 0, 1) := by decide +kernel
theorem dX0_longestScan_3 : decode cX0_longestScan 3 = .ok (.istore_n 3, 1) := by decide +kernel
theorem dX0_longestScan_4 : decode cX0_longestScan 4 = .ok (.iload_n 3, 1) := by decide +kernel
theorem dX0_longestScan_5 : decode cX0_longestScan 5 = .ok (.iconst 5, 1) := by decide +kernel
theorem dX0_longestScan_6 : decode cX0_longestScan 6 = .ok (.if_icmp .ge 31, 3) := by decide +kernel
theorem dX0_longestScan_9 : decode cX0_longestScan 9 = .ok (.iload_n 1, 1) := by decide +kernel
theorem dX0_longestScan_10 : decode cX0_longestScan 10 = .ok (.iload_n 3, 1) := by decide +kernel
theorem dX0_longestScan_11 : decode cX0_longestScan 11 = .ok (.invokestatic 89, 3) := by decide +kernel
theorem dX0_longestScan_14 : decode cX0_longestScan 14 = .ok (.ifCond .eq 17, 3) := by decide +kernel
theorem dX0_longestScan_17 : decode cX0_longestScan 17 = .ok (.iload_n 2, 1) := by decide +kernel
theorem dX0_longestScan_18 : decode cX0_longestScan 18 = .ok (.aload_n 0, 1) := by decide +kernel
theorem dX0_longestScan_19 : decode cX0_longestScan 19 = .ok (.getfield 27, 3) := by decide +kernel
theorem dX0_longestScan_22 : decode cX0_longestScan 22 = .ok (.iload_n 3, 1) := by decide +kernel
theorem dX0_longestScan_23 : decode cX0_longestScan 23 = .ok (.iaload, 1) := by decide +kernel
theorem dX0_longestScan_24 : decode cX0_longestScan 24 = .ok (.invokestatic 73, 3) := by decide +kernel
theorem dX0_longestScan_27 : decode cX0_longestScan 27 = .ok (.invokestatic 93, 3) := by decide +kernel
theorem dX0_longestScan_30 : decode cX0_longestScan 30 = .ok (.istore_n 2, 1) := by decide +kernel
theorem dX0_longestScan_31 : decode cX0_longestScan 31 = .ok (.iinc 3 1, 3) := by decide +kernel
theorem dX0_longestScan_34 : decode cX0_longestScan 34 = .ok (.goto (-30), 3) := by decide +kernel
theorem dX0_longestScan_37 : decode cX0_longestScan 37 = .ok (.iload_n 2, 1) := by decide +kernel
theorem dX0_longestScan_38 : decode cX0_longestScan 38 = .ok (.ireturn, 1) := by decide +kernel
theorem dX0_drawNoise_0 : decode cX0_drawNoise 0 = .ok (.aload_n 0, 1) := by decide +kernel
theorem dX0_drawNoise_1 : decode cX0_drawNoise 1 = .ok (.aload_n 0, 1) := by decide +kernel
theorem dX0_drawNoise_2 : decode cX0_drawNoise 2 = .ok (.getfield 15, 3) := by decide +kernel
theorem dX0_drawNoise_5 : decode cX0_drawNoise 5 = .ok (.ldc 96, 2) := by decide +kernel
theorem dX0_drawNoise_7 : decode cX0_drawNoise 7 = .ok (.imul, 1) := by decide +kernel
theorem dX0_drawNoise_8 : decode cX0_drawNoise 8 = .ok (.sipush 12345, 3) := by decide +kernel
theorem dX0_drawNoise_11 : decode cX0_drawNoise 11 = .ok (.iadd, 1) := by decide +kernel
theorem dX0_drawNoise_12 : decode cX0_drawNoise 12 = .ok (.ldc 97, 2) := by decide +kernel
theorem dX0_drawNoise_14 : decode cX0_drawNoise 14 = .ok (.iand, 1) := by decide +kernel
theorem dX0_drawNoise_15 : decode cX0_drawNoise 15 = .ok (.putfield 15, 3) := by decide +kernel
theorem dX0_drawNoise_18 : decode cX0_drawNoise 18 = .ok (.aload_n 0, 1) := by decide +kernel
theorem dX0_drawNoise_19 : decode cX0_drawNoise 19 = .ok (.getfield 15, 3) := by decide +kernel
theorem dX0_drawNoise_22 : decode cX0_drawNoise 22 = .ok (.ldc 98, 2) := by decide +kernel
theorem dX0_drawNoise_24 : decode cX0_drawNoise 24 = .ok (.idiv, 1) := by decide +kernel
theorem dX0_drawNoise_25 : decode cX0_drawNoise 25 = .ok (.bipush 31, 2) := by decide +kernel
theorem dX0_drawNoise_27 : decode cX0_drawNoise 27 = .ok (.irem, 1) := by decide +kernel
theorem dX0_drawNoise_28 : decode cX0_drawNoise 28 = .ok (.ireturn, 1) := by decide +kernel
set_option maxRecDepth 20000 in
theorem ggX0_receiveCopy_X0_drawNoise : GoodIn wsX0_receiveCopy wsX0_drawNoise := goodIn_r _ [5, 6, 7, 8, 9, 10, 11, 12, 13, 14, 15, 16, 17, 18, 19, 20, 21, 22, 23, 24, 25] (by decide +kernel) (by decide +kernel)
set_option maxRecDepth 20000 in
theorem gX0_receiveCopy_X0_drawNoise : GoodIn wsX0_receiveCopy (wsV RX0 99 RX0 yX0_drawNoise wsX0_drawNoise) := goodIn_app (goodIn_of _ (by decide +kernel)) ggX0_receiveCopy_X0_drawNoise
theorem dX0_receiveCopy_0 : decode cX0_receiveCopy 0 = .ok (.iload_n 1, 1) := by decide +kernel
theorem dX0_receiveCopy_1 : decode cX0_receiveCopy 1 = .ok (.istore_n 3, 1) := by decide +kernel
theorem dX0_receiveCopy_2 : decode cX0_receiveCopy 2 = .ok (.iconst 0, 1) := by decide +kernel
theorem dX0_receiveCopy_3 : decode cX0_receiveCopy 3 = .ok (.istore 4, 2) := by decide +kernel
theorem dX0_receiveCopy_5 : decode cX0_receiveCopy 5 = .ok (.iload 4, 2) := by decide +kernel
theorem dX0_receiveCopy_7 : decode cX0_receiveCopy 7 = .ok (.bipush 24, 2) := by decide +kernel
theorem dX0_receiveCopy_9 : decode cX0_receiveCopy 9 = .ok (.if_icmp .ge 29, 3) := by decide +kernel
theorem dX0_receiveCopy_12 : decode cX0_receiveCopy 12 = .ok (.iconst 2, 1) := by decide +kernel
theorem dX0_receiveCopy_13 : decode cX0_receiveCopy 13 = .ok (.aload_n 0, 1) := by decide +kernel
theorem dX0_receiveCopy_14 : decode cX0_receiveCopy 14 = .ok (.invokevirtual 99, 3) := by decide +kernel
theorem dX0_receiveCopy_17 : decode cX0_receiveCopy 17 = .ok (.imul, 1) := by decide +kernel
theorem dX0_receiveCopy_18 : decode cX0_receiveCopy 18 = .ok (.bipush 30, 2) := by decide +kernel
theorem dX0_receiveCopy_20 : decode cX0_receiveCopy 20 = .ok (.iload_n 2, 1) := by decide +kernel
theorem dX0_receiveCopy_21 : decode cX0_receiveCopy 21 = .ok (.iadd, 1) := by decide +kernel
theorem dX0_receiveCopy_22 : decode cX0_receiveCopy 22 = .ok (.if_icmp .le 10, 3) := by decide +kernel
theorem dX0_receiveCopy_25 : decode cX0_receiveCopy 25 = .ok (.iload_n 3, 1) := by decide +kernel
theorem dX0_receiveCopy_26 : decode cX0_receiveCopy 26 = .ok (.iconst 1, 1) := by decide +kernel
theorem dX0_receiveCopy_27 : decode cX0_receiveCopy 27 = .ok (.iload 4, 2) := by decide +kernel
theorem dX0_receiveCopy_29 : decode cX0_receiveCopy 29 = .ok (.ishl, 1) := by decide +kernel
theorem dX0_receiveCopy_30 : decode cX0_receiveCopy 30 = .ok (.ixor, 1) := by decide +kernel
theorem dX0_receiveCopy_31 : decode cX0_receiveCopy 31 = .ok (.istore_n 3, 1) := by decide +kernel
theorem dX0_receiveCopy_32 : decode cX0_receiveCopy 32 = .ok (.iinc 4 1, 3) := by decide +kernel
theorem dX0_receiveCopy_35 : decode cX0_receiveCopy 35 = .ok (.goto (-30), 3) := by decide +kernel
theorem dX0_receiveCopy_38 : decode cX0_receiveCopy 38 = .ok (.iload_n 3, 1) := by decide +kernel
theorem dX0_receiveCopy_39 : decode cX0_receiveCopy 39 = .ok (.ireturn, 1) := by decide +kernel
set_option maxRecDepth 20000 in
theorem ggX0_transmit_X1_cell : GoodIn wsX0_transmit wsX1_cell := goodIn_r _ [12] (by decide +kernel) (by decide +kernel)
set_option maxRecDepth 20000 in
theorem gX0_transmit_X1_cell_n103 : GoodIn wsX0_transmit (wsX1_cell) := ggX0_transmit_X1_cell
set_option maxRecDepth 20000 in
theorem ggX0_transmit_X0_receiveCopy : GoodIn wsX0_transmit wsX0_receiveCopy := goodIn_r _ [17, 18, 19, 20, 16, 21, 22, 23, 24, 1, 34, 35, 36, 37, 38, 39, 40, 41, 42, 43, 44, 45, 46, 47, 48, 49] (by decide +kernel) (by decide +kernel)
set_option maxRecDepth 20000 in
theorem gX0_transmit_X0_receiveCopy : GoodIn wsX0_transmit (wsV RX0 107 RX0 yX0_receiveCopy wsX0_receiveCopy) := goodIn_app (goodIn_of _ (by decide +kernel)) ggX0_transmit_X0_receiveCopy
set_option maxRecDepth 20000 in
theorem ggX0_transmit_X1_majority : GoodIn wsX0_transmit wsX1_majority := goodIn_r _ [26] (by decide +kernel) (by decide +kernel)
set_option maxRecDepth 20000 in
theorem gX0_transmit_X1_majority_n110 : GoodIn wsX0_transmit (wsX1_majority) := ggX0_transmit_X1_majority
set_option maxRecDepth 20000 in
theorem ggX0_transmit_J6_bitCount_0f7a4 : GoodIn wsX0_transmit wsJ6_bitCount_0f7a4 := goodIn_r _ [30, 31, 32, 33] (by decide +kernel) (by decide +kernel)
set_option maxRecDepth 20000 in
theorem gX0_transmit_J6_bitCount_0f7a4 : GoodIn wsX0_transmit (va_wsS RX0 73 yJ6_bitCount_0f7a4 wsJ6_bitCount_0f7a4) := goodIn_app (goodIn_of _ (by decide +kernel)) ggX0_transmit_J6_bitCount_0f7a4
theorem dX0_transmit_0 : decode cX0_transmit 0 = .ok (.ldc 98, 2) := by decide +kernel
theorem dX0_transmit_2 : decode cX0_transmit 2 = .ok (.iload_n 1, 1) := by decide +kernel
theorem dX0_transmit_3 : decode cX0_transmit 3 = .ok (.imul, 1) := by decide +kernel
theorem dX0_transmit_4 : decode cX0_transmit 4 = .ok (.sipush 256, 3) := by decide +kernel
theorem dX0_transmit_7 : decode cX0_transmit 7 = .ok (.iload 4, 2) := by decide +kernel
theorem dX0_transmit_9 : decode cX0_transmit 9 = .ok (.imul, 1) := by decide +kernel
theorem dX0_transmit_10 : decode cX0_transmit 10 = .ok (.iadd, 1) := by decide +kernel
theorem dX0_transmit_11 : decode cX0_transmit 11 = .ok (.iload_n 2, 1) := by decide +kernel
theorem dX0_transmit_12 : decode cX0_transmit 12 = .ok (.iadd, 1) := by decide +kernel
theorem dX0_transmit_13 : decode cX0_transmit 13 = .ok (.istore 6, 2) := by decide +kernel
theorem dX0_transmit_15 : decode cX0_transmit 15 = .ok (.aload_n 0, 1) := by decide +kernel
theorem dX0_transmit_16 : decode cX0_transmit 16 = .ok (.getfield 37, 3) := by decide +kernel
theorem dX0_transmit_19 : decode cX0_transmit 19 = .ok (.iload_n 2, 1) := by decide +kernel
theorem dX0_transmit_20 : decode cX0_transmit 20 = .ok (.iload_n 3, 1) := by decide +kernel
theorem dX0_transmit_21 : decode cX0_transmit 21 = .ok (.iload 5, 2) := by decide +kernel
theorem dX0_transmit_23 : decode cX0_transmit 23 = .ok (.invokestatic 103, 3) := by decide +kernel
theorem dX0_transmit_26 : decode cX0_transmit 26 = .ok (.iaload, 1) := by decide +kernel
theorem dX0_transmit_27 : decode cX0_transmit 27 = .ok (.istore 7, 2) := by decide +kernel
theorem dX0_transmit_29 : decode cX0_transmit 29 = .ok (.aload_n 0, 1) := by decide +kernel
theorem dX0_transmit_30 : decode cX0_transmit 30 = .ok (.iload 6, 2) := by decide +kernel
theorem dX0_transmit_32 : decode cX0_transmit 32 = .ok (.iload 7, 2) := by decide +kernel
theorem dX0_transmit_34 : decode cX0_transmit 34 = .ok (.invokevirtual 107, 3) := by decide +kernel
theorem dX0_transmit_37 : decode cX0_transmit 37 = .ok (.istore 8, 2) := by decide +kernel
theorem dX0_transmit_39 : decode cX0_transmit 39 = .ok (.aload_n 0, 1) := by decide +kernel
theorem dX0_transmit_40 : decode cX0_transmit 40 = .ok (.iload 6, 2) := by decide +kernel
theorem dX0_transmit_42 : decode cX0_transmit 42 = .ok (.iload 7, 2) := by decide +kernel
theorem dX0_transmit_44 : decode cX0_transmit 44 = .ok (.invokevirtual 107, 3) := by decide +kernel
theorem dX0_transmit_47 : decode cX0_transmit 47 = .ok (.istore 9, 2) := by decide +kernel
theorem dX0_transmit_49 : decode cX0_transmit 49 = .ok (.aload_n 0, 1) := by decide +kernel
theorem dX0_transmit_50 : decode cX0_transmit 50 = .ok (.iload 6, 2) := by decide +kernel
theorem dX0_transmit_52 : decode cX0_transmit 52 = .ok (.iload 7, 2) := by decide +kernel
theorem dX0_transmit_54 : decode cX0_transmit 54 = .ok (.invokevirtual 107, 3) := by decide +kernel
theorem dX0_transmit_57 : decode cX0_transmit 57 = .ok (.istore 10, 2) := by decide +kernel
theorem dX0_transmit_59 : decode cX0_transmit 59 = .ok (.aload_n 0, 1) := by decide +kernel
theorem dX0_transmit_60 : decode cX0_transmit 60 = .ok (.iload 8, 2) := by decide +kernel
theorem dX0_transmit_62 : decode cX0_transmit 62 = .ok (.iload 9, 2) := by decide +kernel
theorem dX0_transmit_64 : decode cX0_transmit 64 = .ok (.iload 10, 2) := by decide +kernel
theorem dX0_transmit_66 : decode cX0_transmit 66 = .ok (.invokestatic 110, 3) := by decide +kernel
theorem dX0_transmit_69 : decode cX0_transmit 69 = .ok (.putfield 24, 3) := by decide +kernel
theorem dX0_transmit_72 : decode cX0_transmit 72 = .ok (.aload_n 0, 1) := by decide +kernel
theorem dX0_transmit_73 : decode cX0_transmit 73 = .ok (.bipush 24, 2) := by decide +kernel
theorem dX0_transmit_75 : decode cX0_transmit 75 = .ok (.iload 8, 2) := by decide +kernel
theorem dX0_transmit_77 : decode cX0_transmit 77 = .ok (.iload 9, 2) := by decide +kernel
theorem dX0_transmit_79 : decode cX0_transmit 79 = .ok (.ixor, 1) := by decide +kernel
theorem dX0_transmit_80 : decode cX0_transmit 80 = .ok (.iload 8, 2) := by decide +kernel
theorem dX0_transmit_82 : decode cX0_transmit 82 = .ok (.iload 10, 2) := by decide +kernel
theorem dX0_transmit_84 : decode cX0_transmit 84 = .ok (.ixor, 1) := by decide +kernel
theorem dX0_transmit_85 : decode cX0_transmit 85 = .ok (.ior, 1) := by decide +kernel
theorem dX0_transmit_86 : decode cX0_transmit 86 = .ok (.invokestatic 73, 3) := by decide +kernel
theorem dX0_transmit_89 : decode cX0_transmit 89 = .ok (.isub, 1) := by decide +kernel
theorem dX0_transmit_90 : decode cX0_transmit 90 = .ok (.putfield 21, 3) := by decide +kernel
theorem dX0_transmit_93 : decode cX0_transmit 93 = .ok (.aload_n 0, 1) := by decide +kernel
theorem dX0_transmit_94 : decode cX0_transmit 94 = .ok (.dup, 1) := by decide +kernel
theorem dX0_transmit_95 : decode cX0_transmit 95 = .ok (.getfield 58, 3) := by decide +kernel
theorem dX0_transmit_98 : decode cX0_transmit 98 = .ok (.iconst 1, 1) := by decide +kernel
theorem dX0_transmit_99 : decode cX0_transmit 99 = .ok (.iadd, 1) := by decide +kernel
theorem dX0_transmit_100 : decode cX0_transmit 100 = .ok (.putfield 58, 3) := by decide +kernel
theorem dX0_transmit_103 : decode cX0_transmit 103 = .ok (.aload_n 0, 1) := by decide +kernel
theorem dX0_transmit_104 : decode cX0_transmit 104 = .ok (.getfield 24, 3) := by decide +kernel
theorem dX0_transmit_107 : decode cX0_transmit 107 = .ok (.iload 6, 2) := by decide +kernel
theorem dX0_transmit_109 : decode cX0_transmit 109 = .ok (.if_icmp .eq 5, 3) := by decide +kernel
theorem dX0_transmit_112 : decode cX0_transmit 112 = .ok (.iconst 0, 1) := by decide +kernel
theorem dX0_transmit_113 : decode cX0_transmit 113 = .ok (.ireturn, 1) := by decide +kernel
theorem dX0_transmit_114 : decode cX0_transmit 114 = .ok (.aload_n 0, 1) := by decide +kernel
theorem dX0_transmit_115 : decode cX0_transmit 115 = .ok (.dup, 1) := by decide +kernel
theorem dX0_transmit_116 : decode cX0_transmit 116 = .ok (.getfield 61, 3) := by decide +kernel
theorem dX0_transmit_119 : decode cX0_transmit 119 = .ok (.iconst 1, 1) := by decide +kernel
theorem dX0_transmit_120 : decode cX0_transmit 120 = .ok (.iadd, 1) := by decide +kernel
theorem dX0_transmit_121 : decode cX0_transmit 121 = .ok (.putfield 61, 3) := by decide +kernel
theorem dX0_transmit_124 : decode cX0_transmit 124 = .ok (.aload_n 0, 1) := by decide +kernel
theorem dX0_transmit_125 : decode cX0_transmit 125 = .ok (.getfield 40, 3) := by decide +kernel
theorem dX0_transmit_128 : decode cX0_transmit 128 = .ok (.iload_n 3, 1) := by decide +kernel
theorem dX0_transmit_129 : decode cX0_transmit 129 = .ok (.iload_n 2, 1) := by decide +kernel
theorem dX0_transmit_130 : decode cX0_transmit 130 = .ok (.iload 5, 2) := by decide +kernel
theorem dX0_transmit_132 : decode cX0_transmit 132 = .ok (.invokestatic 103, 3) := by decide +kernel
theorem dX0_transmit_135 : decode cX0_transmit 135 = .ok (.aload_n 0, 1) := by decide +kernel
theorem dX0_transmit_136 : decode cX0_transmit 136 = .ok (.getfield 21, 3) := by decide +kernel
theorem dX0_transmit_139 : decode cX0_transmit 139 = .ok (.bipush 30, 2) := by decide +kernel
theorem dX0_transmit_141 : decode cX0_transmit 141 = .ok (.imul, 1) := by decide +kernel
theorem dX0_transmit_142 : decode cX0_transmit 142 = .ok (.bipush 24, 2) := by decide +kernel
theorem dX0_transmit_144 : decode cX0_transmit 144 = .ok (.idiv, 1) := by decide +kernel
theorem dX0_transmit_145 : decode cX0_transmit 145 = .ok (.iastore, 1) := by decide +kernel
theorem dX0_transmit_146 : decode cX0_transmit 146 = .ok (.aload_n 0, 1) := by decide +kernel
theorem dX0_transmit_147 : decode cX0_transmit 147 = .ok (.getfield 43, 3) := by decide +kernel
theorem dX0_transmit_150 : decode cX0_transmit 150 = .ok (.iload_n 3, 1) := by decide +kernel
theorem dX0_transmit_151 : decode cX0_transmit 151 = .ok (.iload_n 2, 1) := by decide +kernel
theorem dX0_transmit_152 : decode cX0_transmit 152 = .ok (.iload 5, 2) := by decide +kernel
theorem dX0_transmit_154 : decode cX0_transmit 154 = .ok (.invokestatic 103, 3) := by decide +kernel
theorem dX0_transmit_157 : decode cX0_transmit 157 = .ok (.aload_n 0, 1) := by decide +kernel
theorem dX0_transmit_158 : decode cX0_transmit 158 = .ok (.getfield 55, 3) := by decide +kernel
theorem dX0_transmit_161 : decode cX0_transmit 161 = .ok (.iastore, 1) := by decide +kernel
theorem dX0_transmit_162 : decode cX0_transmit 162 = .ok (.iconst 1, 1) := by decide +kernel
theorem dX0_transmit_163 : decode cX0_transmit 163 = .ok (.ireturn, 1) := by decide +kernel
set_option maxRecDepth 20000 in
theorem ggX0_agedScore_X1_cell : GoodIn wsX0_agedScore wsX1_cell := goodIn_r _ [11] (by decide +kernel) (by decide +kernel)
set_option maxRecDepth 20000 in
theorem gX0_agedScore_X1_cell_n103 : GoodIn wsX0_agedScore (wsX1_cell) := ggX0_agedScore_X1_cell
theorem dX0_agedScore_0 : decode cX0_agedScore 0 = .ok (.aload_n 0, 1) := by decide +kernel
theorem dX0_agedScore_1 : decode cX0_agedScore 1 = .ok (.getfield 40, 3) := by decide +kernel
theorem dX0_agedScore_4 : decode cX0_agedScore 4 = .ok (.iload_n 1, 1) := by decide +kernel
theorem dX0_agedScore_5 : decode cX0_agedScore 5 = .ok (.iload_n 2, 1) := by decide +kernel
theorem dX0_agedScore_6 : decode cX0_agedScore 6 = .ok (.iload_n 3, 1) := by decide +kernel
theorem dX0_agedScore_7 : decode cX0_agedScore 7 = .ok (.invokestatic 103, 3) := by decide +kernel
theorem dX0_agedScore_10 : decode cX0_agedScore 10 = .ok (.iaload, 1) := by decide +kernel
theorem dX0_agedScore_11 : decode cX0_agedScore 11 = .ok (.istore 4, 2) := by decide +kernel
theorem dX0_agedScore_13 : decode cX0_agedScore 13 = .ok (.iload 4, 2) := by decide +kernel
theorem dX0_agedScore_15 : decode cX0_agedScore 15 = .ok (.iconst (-1), 1) := by decide +kernel
theorem dX0_agedScore_16 : decode cX0_agedScore 16 = .ok (.if_icmp .ne 5, 3) := by decide +kernel
theorem dX0_agedScore_19 : decode cX0_agedScore 19 = .ok (.iconst (-1), 1) := by decide +kernel
theorem dX0_agedScore_20 : decode cX0_agedScore 20 = .ok (.ireturn, 1) := by decide +kernel
theorem dX0_agedScore_21 : decode cX0_agedScore 21 = .ok (.aload_n 0, 1) := by decide +kernel
theorem dX0_agedScore_22 : decode cX0_agedScore 22 = .ok (.getfield 55, 3) := by decide +kernel
theorem dX0_agedScore_25 : decode cX0_agedScore 25 = .ok (.aload_n 0, 1) := by decide +kernel
theorem dX0_agedScore_26 : decode cX0_agedScore 26 = .ok (.getfield 43, 3) := by decide +kernel
theorem dX0_agedScore_29 : decode cX0_agedScore 29 = .ok (.iload_n 1, 1) := by decide +kernel
theorem dX0_agedScore_30 : decode cX0_agedScore 30 = .ok (.iload_n 2, 1) := by decide +kernel
theorem dX0_agedScore_31 : decode cX0_agedScore 31 = .ok (.iload_n 3, 1) := by decide +kernel
theorem dX0_agedScore_32 : decode cX0_agedScore 32 = .ok (.invokestatic 103, 3) := by decide +kernel
theorem dX0_agedScore_35 : decode cX0_agedScore 35 = .ok (.iaload, 1) := by decide +kernel
theorem dX0_agedScore_36 : decode cX0_agedScore 36 = .ok (.isub, 1) := by decide +kernel
theorem dX0_agedScore_37 : decode cX0_agedScore 37 = .ok (.istore 5, 2) := by decide +kernel
theorem dX0_agedScore_39 : decode cX0_agedScore 39 = .ok (.iconst 0, 1) := by decide +kernel
theorem dX0_agedScore_40 : decode cX0_agedScore 40 = .ok (.iload 4, 2) := by decide +kernel
theorem dX0_agedScore_42 : decode cX0_agedScore 42 = .ok (.iload 5, 2) := by decide +kernel
theorem dX0_agedScore_44 : decode cX0_agedScore 44 = .ok (.aload_n 0, 1) := by decide +kernel
theorem dX0_agedScore_45 : decode cX0_agedScore 45 = .ok (.getfield 9, 3) := by decide +kernel
theorem dX0_agedScore_48 : decode cX0_agedScore 48 = .ok (.idiv, 1) := by decide +kernel
theorem dX0_agedScore_49 : decode cX0_agedScore 49 = .ok (.isub, 1) := by decide +kernel
theorem dX0_agedScore_50 : decode cX0_agedScore 50 = .ok (.invokestatic 93, 3) := by decide +kernel
theorem dX0_agedScore_53 : decode cX0_agedScore 53 = .ok (.ireturn, 1) := by decide +kernel
set_option maxRecDepth 20000 in
theorem ggX0_netScore_X1_contains : GoodIn wsX0_netScore wsX1_contains := goodIn_r _ [7] (by decide +kernel) (by decide +kernel)
set_option maxRecDepth 20000 in
theorem gX0_netScore_X1_contains_n89 : GoodIn wsX0_netScore (wsX1_contains) := ggX0_netScore_X1_contains
set_option maxRecDepth 20000 in
theorem ggX0_netScore_X0_agedScore : GoodIn wsX0_netScore wsX0_agedScore := goodIn_r _ [12, 13, 14, 15, 16, 17, 18, 3, 19, 20, 6, 21, 22, 23, 24, 25, 26, 27, 28, 29, 30, 31, 32, 33, 34, 35, 36, 37] (by decide +kernel) (by decide +kernel)
set_option maxRecDepth 20000 in
theorem gX0_netScore_X0_agedScore : GoodIn wsX0_netScore (wsV RX0 113 RX0 yX0_agedScore wsX0_agedScore) := goodIn_app (goodIn_of _ (by decide +kernel)) ggX0_netScore_X0_agedScore
theorem dX0_netScore_0 : decode cX0_netScore 0 = .ok (.bipush 30, 2) := by decide +kernel
theorem dX0_netScore_2 : decode cX0_netScore 2 = .ok (.istore 4, 2) := by decide +kernel
theorem dX0_netScore_4 : decode cX0_netScore 4 = .ok (.iconst 0, 1) := by decide +kernel
theorem dX0_netScore_5 : decode cX0_netScore 5 = .ok (.istore 5, 2) := by decide +kernel
theorem dX0_netScore_7 : decode cX0_netScore 7 = .ok (.iload 5, 2) := by decide +kernel
theorem dX0_netScore_9 : decode cX0_netScore 9 = .ok (.iconst 5, 1) := by decide +kernel
theorem dX0_netScore_10 : decode cX0_netScore 10 = .ok (.if_icmp .ge 33, 3) := by decide +kernel
theorem dX0_netScore_13 : decode cX0_netScore 13 = .ok (.iload_n 2, 1) := by decide +kernel
theorem dX0_netScore_14 : decode cX0_netScore 14 = .ok (.iload 5, 2) := by decide +kernel
theorem dX0_netScore_16 : decode cX0_netScore 16 = .ok (.invokestatic 89, 3) := by decide +kernel
theorem dX0_netScore_19 : decode cX0_netScore 19 = .ok (.ifCond .eq 18, 3) := by decide +kernel
theorem dX0_netScore_22 : decode cX0_netScore 22 = .ok (.iload 4, 2) := by decide +kernel
theorem dX0_netScore_24 : decode cX0_netScore 24 = .ok (.aload_n 0, 1) := by decide +kernel
theorem dX0_netScore_25 : decode cX0_netScore 25 = .ok (.iload_n 1, 1) := by decide +kernel
theorem dX0_netScore_26 : decode cX0_netScore 26 = .ok (.iload 5, 2) := by decide +kernel
theorem dX0_netScore_28 : decode cX0_netScore 28 = .ok (.iload_n 3, 1) := by decide +kernel
theorem dX0_netScore_29 : decode cX0_netScore 29 = .ok (.invokevirtual 113, 3) := by decide +kernel
theorem dX0_netScore_32 : decode cX0_netScore 32 = .ok (.invokestatic 116, 3) := by decide +kernel
theorem dX0_netScore_35 : decode cX0_netScore 35 = .ok (.istore 4, 2) := by decide +kernel
theorem dX0_netScore_37 : decode cX0_netScore 37 = .ok (.iinc 5 1, 3) := by decide +kernel
theorem dX0_netScore_40 : decode cX0_netScore 40 = .ok (.goto (-33), 3) := by decide +kernel
theorem dX0_netScore_43 : decode cX0_netScore 43 = .ok (.iload 4, 2) := by decide +kernel
theorem dX0_netScore_45 : decode cX0_netScore 45 = .ok (.ireturn, 1) := by decide +kernel
set_option maxRecDepth 20000 in
theorem ggX0_rankChannels_X0_netScore : GoodIn wsX0_rankChannels wsX0_netScore := goodIn_r _ [6, 7, 8, 9, 10, 11, 12, 13, 14, 15, 16, 5, 17, 18, 19, 20, 21, 22, 23, 24, 25, 26, 27, 28, 29, 30, 31, 32, 33, 34, 35, 36, 37, 38, 39, 40, 41, 42] (by decide +kernel) (by decide +kernel)
set_option maxRecDepth 20000 in
theorem gX0_rankChannels_X0_netScore : GoodIn wsX0_rankChannels (wsV RX0 119 RX0 yX0_netScore wsX0_netScore) := goodIn_app (goodIn_of _ (by decide +kernel)) ggX0_rankChannels_X0_netScore
theorem dX0_rankChannels_0 : decode cX0_rankChannels 0 = .ok (.iconst 0, 1) := by decide +kernel
theorem dX0_rankChannels_1 : decode cX0_rankChannels 1 = .ok (.istore_n 3, 1) := by decide +kernel
theorem dX0_rankChannels_2 : decode cX0_rankChannels 2 = .ok (.iload_n 3, 1) := by decide +kernel
theorem dX0_rankChannels_3 : decode cX0_rankChannels 3 = .ok (.bipush 8, 2) := by decide +kernel
theorem dX0_rankChannels_5 : decode cX0_rankChannels 5 = .ok (.if_icmp .ge 22, 3) := by decide +kernel
theorem dX0_rankChannels_8 : decode cX0_rankChannels 8 = .ok (.aload_n 0, 1) := by decide +kernel
theorem dX0_rankChannels_9 : decode cX0_rankChannels 9 = .ok (.getfield 46, 3) := by decide +kernel
theorem dX0_rankChannels_12 : decode cX0_rankChannels 12 = .ok (.iload_n 3, 1) := by decide +kernel
theorem dX0_rankChannels_13 : decode cX0_rankChannels 13 = .ok (.aload_n 0, 1) := by decide +kernel
theorem dX0_rankChannels_14 : decode cX0_rankChannels 14 = .ok (.iload_n 1, 1) := by decide +kernel
theorem dX0_rankChannels_15 : decode cX0_rankChannels 15 = .ok (.iload_n 2, 1) := by decide +kernel
theorem dX0_rankChannels_16 : decode cX0_rankChannels 16 = .ok (.iload_n 3, 1) := by decide +kernel
theorem dX0_rankChannels_17 : decode cX0_rankChannels 17 = .ok (.invokevirtual 119, 3) := by decide +kernel
theorem dX0_rankChannels_20 : decode cX0_rankChannels 20 = .ok (.iastore, 1) := by decide +kernel
theorem dX0_rankChannels_21 : decode cX0_rankChannels 21 = .ok (.iinc 3 1, 3) := by decide +kernel
theorem dX0_rankChannels_24 : decode cX0_rankChannels 24 = .ok (.goto (-22), 3) := by decide +kernel
theorem dX0_rankChannels_27 : decode cX0_rankChannels 27 = .ok (.return_, 1) := by decide +kernel
set_option maxRecDepth 20000 in
theorem ggX0_firstRanked_X1_contains : GoodIn wsX0_firstRanked wsX1_contains := goodIn_r _ [4] (by decide +kernel) (by decide +kernel)
set_option maxRecDepth 20000 in
theorem gX0_firstRanked_X1_contains_n89 : GoodIn wsX0_firstRanked (wsX1_contains) := ggX0_firstRanked_X1_contains
theorem dX0_firstRanked_0 : decode cX0_firstRanked 0 = .ok (.iconst (-1), 1) := by decide +kernel
theorem dX0_firstRanked_1 : decode cX0_firstRanked 1 = .ok (.istore_n 2, 1) := by decide +kernel
theorem dX0_firstRanked_2 : decode cX0_firstRanked 2 = .ok (.iconst 0, 1) := by decide +kernel
theorem dX0_firstRanked_3 : decode cX0_firstRanked 3 = .ok (.istore_n 3, 1) := by decide +kernel
theorem dX0_firstRanked_4 : decode cX0_firstRanked 4 = .ok (.iload_n 3, 1) := by decide +kernel
theorem dX0_firstRanked_5 : decode cX0_firstRanked 5 = .ok (.bipush 8, 2) := by decide +kernel
theorem dX0_firstRanked_7 : decode cX0_firstRanked 7 = .ok (.if_icmp .ge 39, 3) := by decide +kernel
theorem dX0_firstRanked_10 : decode cX0_firstRanked 10 = .ok (.iload_n 1, 1) := by decide +kernel
theorem dX0_firstRanked_11 : decode cX0_firstRanked 11 = .ok (.iload_n 3, 1) := by decide +kernel
theorem dX0_firstRanked_12 : decode cX0_firstRanked 12 = .ok (.invokestatic 89, 3) := by decide +kernel
theorem dX0_firstRanked_15 : decode cX0_firstRanked 15 = .ok (.ifCond .eq 25, 3) := by decide +kernel
theorem dX0_firstRanked_18 : decode cX0_firstRanked 18 = .ok (.iload_n 2, 1) := by decide +kernel
theorem dX0_firstRanked_19 : decode cX0_firstRanked 19 = .ok (.iconst (-1), 1) := by decide +kernel
theorem dX0_firstRanked_20 : decode cX0_firstRanked 20 = .ok (.if_icmp .eq 18, 3) := by decide +kernel
theorem dX0_firstRanked_23 : decode cX0_firstRanked 23 = .ok (.aload_n 0, 1) := by decide +kernel
theorem dX0_firstRanked_24 : decode cX0_firstRanked 24 = .ok (.getfield 46, 3) := by decide +kernel
theorem dX0_firstRanked_27 : decode cX0_firstRanked 27 = .ok (.iload_n 3, 1) := by decide +kernel
theorem dX0_firstRanked_28 : decode cX0_firstRanked 28 = .ok (.iaload, 1) := by decide +kernel
theorem dX0_firstRanked_29 : decode cX0_firstRanked 29 = .ok (.aload_n 0, 1) := by decide +kernel
theorem dX0_firstRanked_30 : decode cX0_firstRanked 30 = .ok (.getfield 46, 3) := by decide +kernel
theorem dX0_firstRanked_33 : decode cX0_firstRanked 33 = .ok (.iload_n 2, 1) := by decide +kernel
theorem dX0_firstRanked_34 : decode cX0_firstRanked 34 = .ok (.iaload, 1) := by decide +kernel
theorem dX0_firstRanked_35 : decode cX0_firstRanked 35 = .ok (.if_icmp .le 5, 3) := by decide +kernel
theorem dX0_firstRanked_38 : decode cX0_firstRanked 38 = .ok (.iload_n 3, 1) := by decide +kernel
theorem dX0_firstRanked_39 : decode cX0_firstRanked 39 = .ok (.istore_n 2, 1) := by decide +kernel
theorem dX0_firstRanked_40 : decode cX0_firstRanked 40 = .ok (.iinc 3 1, 3) := by decide +kernel
theorem dX0_firstRanked_43 : decode cX0_firstRanked 43 = .ok (.goto (-39), 3) := by decide +kernel
theorem dX0_firstRanked_46 : decode cX0_firstRanked 46 = .ok (.iload_n 2, 1) := by decide +kernel
theorem dX0_firstRanked_47 : decode cX0_firstRanked 47 = .ok (.ireturn, 1) := by decide +kernel
set_option maxRecDepth 20000 in
theorem ggX0_preferredChannel_X0_rankChannels : GoodIn wsX0_preferredChannel wsX0_rankChannels := goodIn_r _ [6, 7, 8, 9, 10, 5, 11, 12, 13, 14, 15, 16, 17, 18, 19, 20, 21, 22, 23, 24, 25, 26, 27, 28, 29, 30, 31, 36, 37, 38, 39, 40, 41, 42, 43, 44, 45, 46, 47, 48, 49, 50, 51] (by decide +kernel) (by decide +kernel)
set_option maxRecDepth 20000 in
theorem gX0_preferredChannel_X0_rankChannels : GoodIn wsX0_preferredChannel (wsV RX0 122 RX0 yX0_rankChannels wsX0_rankChannels) := goodIn_app (goodIn_of _ (by decide +kernel)) ggX0_preferredChannel_X0_rankChannels
set_option maxRecDepth 20000 in
theorem ggX0_preferredChannel_X0_firstRanked : GoodIn wsX0_preferredChannel wsX0_firstRanked := goodIn_r _ [35, 7, 16, 17, 18, 36, 37, 38, 39, 40, 41, 42, 43, 44, 45, 46, 47, 48, 49, 50, 51] (by decide +kernel) (by decide +kernel)
set_option maxRecDepth 20000 in
theorem gX0_preferredChannel_X0_firstRanked : GoodIn wsX0_preferredChannel (wsV RX0 126 RX0 yX0_firstRanked wsX0_firstRanked) := goodIn_app (goodIn_of _ (by decide +kernel)) ggX0_preferredChannel_X0_firstRanked
theorem dX0_preferredChannel_0 : decode cX0_preferredChannel 0 = .ok (.aload_n 0, 1) := by decide +kernel
theorem dX0_preferredChannel_1 : decode cX0_preferredChannel 1 = .ok (.iload_n 1, 1) := by decide +kernel
theorem dX0_preferredChannel_2 : decode cX0_preferredChannel 2 = .ok (.iload_n 2, 1) := by decide +kernel
theorem dX0_preferredChannel_3 : decode cX0_preferredChannel 3 = .ok (.invokevirtual 122, 3) := by decide +kernel
theorem dX0_preferredChannel_6 : decode cX0_preferredChannel 6 = .ok (.aload_n 0, 1) := by decide +kernel
theorem dX0_preferredChannel_7 : decode cX0_preferredChannel 7 = .ok (.aload_n 0, 1) := by decide +kernel
theorem dX0_preferredChannel_8 : decode cX0_preferredChannel 8 = .ok (.getfield 27, 3) := by decide +kernel
theorem dX0_preferredChannel_11 : decode cX0_preferredChannel 11 = .ok (.iload_n 1, 1) := by decide +kernel
theorem dX0_preferredChannel_12 : decode cX0_preferredChannel 12 = .ok (.iaload, 1) := by decide +kernel
theorem dX0_preferredChannel_13 : decode cX0_preferredChannel 13 = .ok (.invokevirtual 126, 3) := by decide +kernel
theorem dX0_preferredChannel_16 : decode cX0_preferredChannel 16 = .ok (.ireturn, 1) := by decide +kernel
set_option maxRecDepth 20000 in
theorem ggX0_emitSounding_X0_longestScan : GoodIn wsX0_emitSounding wsX0_longestScan := goodIn_r _ [6, 7, 8, 9, 10, 11, 12, 13, 14, 15, 16, 17, 18, 19, 20, 21, 58, 59, 60, 61, 62, 63, 64, 65, 66, 67, 68, 69, 70, 71, 72, 73] (by decide +kernel) (by decide +kernel)
set_option maxRecDepth 20000 in
theorem gX0_emitSounding_X0_longestScan : GoodIn wsX0_emitSounding (wsV RX0 129 RX0 yX0_longestScan wsX0_longestScan) := goodIn_app (goodIn_of _ (by decide +kernel)) ggX0_emitSounding_X0_longestScan
set_option maxRecDepth 20000 in
theorem ggX0_emitSounding_X0_hears : GoodIn wsX0_emitSounding wsX0_hears := goodIn_r _ [25, 7, 26, 27, 28, 5, 29, 30, 12, 13, 14, 58, 59, 60, 61, 62, 63, 64, 65, 66, 67, 68, 69, 70, 71, 72, 73] (by decide +kernel) (by decide +kernel)
set_option maxRecDepth 20000 in
theorem gX0_emitSounding_X0_hears : GoodIn wsX0_emitSounding (wsV RX0 132 RX0 yX0_hears wsX0_hears) := goodIn_app (goodIn_of _ (by decide +kernel)) ggX0_emitSounding_X0_hears
set_option maxRecDepth 20000 in
theorem ggX0_emitSounding_X0_transmit : GoodIn wsX0_emitSounding wsX0_transmit := goodIn_r _ [34, 35, 36, 37, 38, 39, 40, 41, 42, 1, 43, 13, 44, 45, 46, 47, 5, 48, 49, 50, 51, 52, 53, 54, 55, 56, 57, 15, 16, 17, 18, 19, 20, 21, 58, 59, 60, 61, 62, 63, 64, 65, 66, 67, 68, 69, 70, 71, 72, 73] (by decide +kernel) (by decide +kernel)
set_option maxRecDepth 20000 in
theorem gX0_emitSounding_X0_transmit : GoodIn wsX0_emitSounding (wsV RX0 135 RX0 yX0_transmit wsX0_transmit) := goodIn_app (goodIn_of _ (by decide +kernel)) ggX0_emitSounding_X0_transmit
theorem dX0_emitSounding_0 : decode cX0_emitSounding 0 = .ok (.aload_n 0, 1) := by decide +kernel
theorem dX0_emitSounding_1 : decode cX0_emitSounding 1 = .ok (.dup, 1) := by decide +kernel
theorem dX0_emitSounding_2 : decode cX0_emitSounding 2 = .ok (.getfield 55, 3) := by decide +kernel
theorem dX0_emitSounding_5 : decode cX0_emitSounding 5 = .ok (.aload_n 0, 1) := by decide +kernel
theorem dX0_emitSounding_6 : decode cX0_emitSounding 6 = .ok (.bipush 31, 2) := by decide +kernel
theorem dX0_emitSounding_8 : decode cX0_emitSounding 8 = .ok (.invokevirtual 129, 3) := by decide +kernel
theorem dX0_emitSounding_11 : decode cX0_emitSounding 11 = .ok (.iadd, 1) := by decide +kernel
theorem dX0_emitSounding_12 : decode cX0_emitSounding 12 = .ok (.putfield 55, 3) := by decide +kernel
theorem dX0_emitSounding_15 : decode cX0_emitSounding 15 = .ok (.iconst 0, 1) := by decide +kernel
theorem dX0_emitSounding_16 : decode cX0_emitSounding 16 = .ok (.istore_n 3, 1) := by decide +kernel
theorem dX0_emitSounding_17 : decode cX0_emitSounding 17 = .ok (.iconst 0, 1) := by decide +kernel
theorem dX0_emitSounding_18 : decode cX0_emitSounding 18 = .ok (.istore 4, 2) := by decide +kernel
theorem dX0_emitSounding_20 : decode cX0_emitSounding 20 = .ok (.iload 4, 2) := by decide +kernel
theorem dX0_emitSounding_22 : decode cX0_emitSounding 22 = .ok (.iconst 5, 1) := by decide +kernel
theorem dX0_emitSounding_23 : decode cX0_emitSounding 23 = .ok (.if_icmp .ge 47, 3) := by decide +kernel
theorem dX0_emitSounding_26 : decode cX0_emitSounding 26 = .ok (.iload 4, 2) := by decide +kernel
theorem dX0_emitSounding_28 : decode cX0_emitSounding 28 = .ok (.iload_n 1, 1) := by decide +kernel
theorem dX0_emitSounding_29 : decode cX0_emitSounding 29 = .ok (.if_icmp .eq 35, 3) := by decide +kernel
theorem dX0_emitSounding_32 : decode cX0_emitSounding 32 = .ok (.aload_n 0, 1) := by decide +kernel
theorem dX0_emitSounding_33 : decode cX0_emitSounding 33 = .ok (.iload 4, 2) := by decide +kernel
theorem dX0_emitSounding_35 : decode cX0_emitSounding 35 = .ok (.iload_n 2, 1) := by decide +kernel
theorem dX0_emitSounding_36 : decode cX0_emitSounding 36 = .ok (.invokevirtual 132, 3) := by decide +kernel
theorem dX0_emitSounding_39 : decode cX0_emitSounding 39 = .ok (.ifCond .eq 25, 3) := by decide +kernel
theorem dX0_emitSounding_42 : decode cX0_emitSounding 42 = .ok (.aload_n 0, 1) := by decide +kernel
theorem dX0_emitSounding_43 : decode cX0_emitSounding 43 = .ok (.iconst 1, 1) := by decide +kernel
theorem dX0_emitSounding_44 : decode cX0_emitSounding 44 = .ok (.iload_n 1, 1) := by decide +kernel
theorem dX0_emitSounding_45 : decode cX0_emitSounding 45 = .ok (.iload 4, 2) := by decide +kernel
theorem dX0_emitSounding_47 : decode cX0_emitSounding 47 = .ok (.sipush 255, 3) := by decide +kernel
theorem dX0_emitSounding_50 : decode cX0_emitSounding 50 = .ok (.iload_n 2, 1) := by decide +kernel
theorem dX0_emitSounding_51 : decode cX0_emitSounding 51 = .ok (.invokevirtual 135, 3) := by decide +kernel
theorem dX0_emitSounding_54 : decode cX0_emitSounding 54 = .ok (.ifCond .eq 10, 3) := by decide +kernel
theorem dX0_emitSounding_57 : decode cX0_emitSounding 57 = .ok (.iload_n 3, 1) := by decide +kernel
theorem dX0_emitSounding_58 : decode cX0_emitSounding 58 = .ok (.iconst 1, 1) := by decide +kernel
theorem dX0_emitSounding_59 : decode cX0_emitSounding 59 = .ok (.iload 4, 2) := by decide +kernel
theorem dX0_emitSounding_61 : decode cX0_emitSounding 61 = .ok (.ishl, 1) := by decide +kernel
theorem dX0_emitSounding_62 : decode cX0_emitSounding 62 = .ok (.ior, 1) := by decide +kernel
theorem dX0_emitSounding_63 : decode cX0_emitSounding 63 = .ok (.istore_n 3, 1) := by decide +kernel
theorem dX0_emitSounding_64 : decode cX0_emitSounding 64 = .ok (.iinc 4 1, 3) := by decide +kernel
theorem dX0_emitSounding_67 : decode cX0_emitSounding 67 = .ok (.goto (-47), 3) := by decide +kernel
theorem dX0_emitSounding_70 : decode cX0_emitSounding 70 = .ok (.iload_n 3, 1) := by decide +kernel
theorem dX0_emitSounding_71 : decode cX0_emitSounding 71 = .ok (.ireturn, 1) := by decide +kernel
set_option maxRecDepth 20000 in
theorem ggX0_callOne_X0_rankChannels : GoodIn wsX0_callOne wsX0_rankChannels := goodIn_r _ [8, 9, 10, 11, 12, 7, 13, 14, 15, 16, 17, 18, 19, 20, 21, 22, 23, 24, 25, 26, 27, 28, 29, 30, 31, 32, 33, 86, 87, 88, 89, 90, 91, 92, 93, 94, 95, 96, 97, 98, 99, 100, 101] (by decide +kernel) (by decide +kernel)
set_option maxRecDepth 20000 in
theorem gX0_callOne_X0_rankChannels : GoodIn wsX0_callOne (wsV RX0 122 RX0 yX0_rankChannels wsX0_rankChannels) := goodIn_app (goodIn_of _ (by decide +kernel)) ggX0_callOne_X0_rankChannels
set_option maxRecDepth 20000 in
theorem ggX0_callOne_X0_firstRanked : GoodIn wsX0_callOne wsX0_firstRanked := goodIn_r _ [37, 9, 18, 19, 20, 86, 87, 88, 89, 90, 91, 92, 93, 94, 95, 96, 97, 98, 99, 100, 101] (by decide +kernel) (by decide +kernel)
set_option maxRecDepth 20000 in
theorem gX0_callOne_X0_firstRanked : GoodIn wsX0_callOne (wsV RX0 126 RX0 yX0_firstRanked wsX0_firstRanked) := goodIn_app (goodIn_of _ (by decide +kernel)) ggX0_callOne_X0_firstRanked
set_option maxRecDepth 20000 in
theorem ggX0_callOne_X0_shakeHands : GoodIn wsX0_callOne wsX0_shakeHands := goodIn_r _ [41, 26, 2, 42, 43, 44, 45, 46, 47, 48, 49, 50, 51, 7, 52, 53, 54, 55, 56, 57, 18, 19, 20, 58, 59, 60, 61, 62, 63, 64, 65, 66, 67, 25, 27, 32, 33, 68, 69, 70, 71, 72, 73, 74, 75, 76, 77, 78, 79, 80, 86, 87, 88, 89, 90, 91, 92, 93, 94, 95, 96, 97, 98, 99, 100, 101] (by decide +kernel) (by decide +kernel)
set_option maxRecDepth 20000 in
theorem gX0_callOne_X0_shakeHands : GoodIn wsX0_callOne (wsV RX0 139 RX0 yX0_shakeHands wsX0_shakeHands) := goodIn_app (goodIn_of _ (by decide +kernel)) ggX0_callOne_X0_shakeHands
set_option maxRecDepth 20000 in
theorem ggX0_callOne_X0_joinLink : GoodIn wsX0_callOne wsX0_joinLink := goodIn_r _ [84, 57, 85, 18, 19, 20, 86, 87, 88, 89, 90, 91, 92, 93, 94, 95, 96, 97, 98, 99, 100, 101] (by decide +kernel) (by decide +kernel)
set_option maxRecDepth 20000 in
theorem gX0_callOne_X0_joinLink : GoodIn wsX0_callOne (wsV RX0 143 RX0 yX0_joinLink wsX0_joinLink) := goodIn_app (goodIn_of _ (by decide +kernel)) ggX0_callOne_X0_joinLink
theorem dX0_callOne_0 : decode cX0_callOne 0 = .ok (.aload_n 0, 1) := by decide +kernel
theorem dX0_callOne_1 : decode cX0_callOne 1 = .ok (.iload_n 1, 1) := by decide +kernel
theorem dX0_callOne_2 : decode cX0_callOne 2 = .ok (.iconst 1, 1) := by decide +kernel
theorem dX0_callOne_3 : decode cX0_callOne 3 = .ok (.iload_n 2, 1) := by decide +kernel
theorem dX0_callOne_4 : decode cX0_callOne 4 = .ok (.ishl, 1) := by decide +kernel
theorem dX0_callOne_5 : decode cX0_callOne 5 = .ok (.invokevirtual 122, 3) := by decide +kernel
theorem dX0_callOne_8 : decode cX0_callOne 8 = .ok (.aload_n 0, 1) := by decide +kernel
theorem dX0_callOne_9 : decode cX0_callOne 9 = .ok (.iconst 0, 1) := by decide +kernel
theorem dX0_callOne_10 : decode cX0_callOne 10 = .ok (.putfield 64, 3) := by decide +kernel
theorem dX0_callOne_13 : decode cX0_callOne 13 = .ok (.aload_n 0, 1) := by decide +kernel
theorem dX0_callOne_14 : decode cX0_callOne 14 = .ok (.getfield 27, 3) := by decide +kernel
theorem dX0_callOne_17 : decode cX0_callOne 17 = .ok (.iload_n 1, 1) := by decide +kernel
theorem dX0_callOne_18 : decode cX0_callOne 18 = .ok (.iaload, 1) := by decide +kernel
theorem dX0_callOne_19 : decode cX0_callOne 19 = .ok (.istore_n 3, 1) := by decide +kernel
theorem dX0_callOne_20 : decode cX0_callOne 20 = .ok (.iconst 0, 1) := by decide +kernel
theorem dX0_callOne_21 : decode cX0_callOne 21 = .ok (.istore 4, 2) := by decide +kernel
theorem dX0_callOne_23 : decode cX0_callOne 23 = .ok (.iload 4, 2) := by decide +kernel
theorem dX0_callOne_25 : decode cX0_callOne 25 = .ok (.bipush 8, 2) := by decide +kernel
theorem dX0_callOne_27 : decode cX0_callOne 27 = .ok (.if_icmp .ge 72, 3) := by decide +kernel
theorem dX0_callOne_30 : decode cX0_callOne 30 = .ok (.iload_n 3, 1) := by decide +kernel
theorem dX0_callOne_31 : decode cX0_callOne 31 = .ok (.ifCond .eq 68, 3) := by decide +kernel
theorem dX0_callOne_34 : decode cX0_callOne 34 = .ok (.aload_n 0, 1) := by decide +kernel
theorem dX0_callOne_35 : decode cX0_callOne 35 = .ok (.iload_n 3, 1) := by decide +kernel
theorem dX0_callOne_36 : decode cX0_callOne 36 = .ok (.invokevirtual 126, 3) := by decide +kernel
theorem dX0_callOne_39 : decode cX0_callOne 39 = .ok (.istore 5, 2) := by decide +kernel
theorem dX0_callOne_41 : decode cX0_callOne 41 = .ok (.iload_n 3, 1) := by decide +kernel
theorem dX0_callOne_42 : decode cX0_callOne 42 = .ok (.iconst 1, 1) := by decide +kernel
theorem dX0_callOne_43 : decode cX0_callOne 43 = .ok (.iload 5, 2) := by decide +kernel
theorem dX0_callOne_45 : decode cX0_callOne 45 = .ok (.ishl, 1) := by decide +kernel
theorem dX0_callOne_46 : decode cX0_callOne 46 = .ok (.iconst (-1), 1) := by decide +kernel
theorem dX0_callOne_47 : decode cX0_callOne 47 = .ok (.ixor, 1) := by decide +kernel
theorem dX0_callOne_48 : decode cX0_callOne 48 = .ok (.iand, 1) := by decide +kernel
theorem dX0_callOne_49 : decode cX0_callOne 49 = .ok (.istore_n 3, 1) := by decide +kernel
theorem dX0_callOne_50 : decode cX0_callOne 50 = .ok (.aload_n 0, 1) := by decide +kernel
theorem dX0_callOne_51 : decode cX0_callOne 51 = .ok (.dup, 1) := by decide +kernel
theorem dX0_callOne_52 : decode cX0_callOne 52 = .ok (.getfield 64, 3) := by decide +kernel
theorem dX0_callOne_55 : decode cX0_callOne 55 = .ok (.iconst 1, 1) := by decide +kernel
theorem dX0_callOne_56 : decode cX0_callOne 56 = .ok (.iadd, 1) := by decide +kernel
theorem dX0_callOne_57 : decode cX0_callOne 57 = .ok (.putfield 64, 3) := by decide +kernel
theorem dX0_callOne_60 : decode cX0_callOne 60 = .ok (.aload_n 0, 1) := by decide +kernel
theorem dX0_callOne_61 : decode cX0_callOne 61 = .ok (.iload 5, 2) := by decide +kernel
theorem dX0_callOne_63 : decode cX0_callOne 63 = .ok (.putfield 18, 3) := by decide +kernel
theorem dX0_callOne_66 : decode cX0_callOne 66 = .ok (.aload_n 0, 1) := by decide +kernel
theorem dX0_callOne_67 : decode cX0_callOne 67 = .ok (.iload_n 1, 1) := by decide +kernel
theorem dX0_callOne_68 : decode cX0_callOne 68 = .ok (.iload_n 2, 1) := by decide +kernel
theorem dX0_callOne_69 : decode cX0_callOne 69 = .ok (.iload 5, 2) := by decide +kernel
theorem dX0_callOne_71 : decode cX0_callOne 71 = .ok (.invokevirtual 139, 3) := by decide +kernel
theorem dX0_callOne_74 : decode cX0_callOne 74 = .ok (.ifCond .eq 19, 3) := by decide +kernel
theorem dX0_callOne_77 : decode cX0_callOne 77 = .ok (.aload_n 0, 1) := by decide +kernel
theorem dX0_callOne_78 : decode cX0_callOne 78 = .ok (.iconst 1, 1) := by decide +kernel
theorem dX0_callOne_79 : decode cX0_callOne 79 = .ok (.iload_n 1, 1) := by decide +kernel
theorem dX0_callOne_80 : decode cX0_callOne 80 = .ok (.ishl, 1) := by decide +kernel
theorem dX0_callOne_81 : decode cX0_callOne 81 = .ok (.iconst 1, 1) := by decide +kernel
theorem dX0_callOne_82 : decode cX0_callOne 82 = .ok (.iload_n 2, 1) := by decide +kernel
theorem dX0_callOne_83 : decode cX0_callOne 83 = .ok (.ishl, 1) := by decide +kernel
theorem dX0_callOne_84 : decode cX0_callOne 84 = .ok (.ior, 1) := by decide +kernel
theorem dX0_callOne_85 : decode cX0_callOne 85 = .ok (.iload 5, 2) := by decide +kernel
theorem dX0_callOne_87 : decode cX0_callOne 87 = .ok (.invokevirtual 143, 3) := by decide +kernel
theorem dX0_callOne_90 : decode cX0_callOne 90 = .ok (.iload 5, 2) := by decide +kernel
theorem dX0_callOne_92 : decode cX0_callOne 92 = .ok (.ireturn, 1) := by decide +kernel
theorem dX0_callOne_93 : decode cX0_callOne 93 = .ok (.iinc 4 1, 3) := by decide +kernel
theorem dX0_callOne_96 : decode cX0_callOne 96 = .ok (.goto (-73), 3) := by decide +kernel
theorem dX0_callOne_99 : decode cX0_callOne 99 = .ok (.iconst (-1), 1) := by decide +kernel
theorem dX0_callOne_100 : decode cX0_callOne 100 = .ok (.ireturn, 1) := by decide +kernel
set_option maxRecDepth 20000 in
theorem ggX0_shakeHands_J6_bitCount_0f7a4 : GoodIn wsX0_shakeHands wsJ6_bitCount_0f7a4 := goodIn_r _ [6, 7, 8, 9] (by decide +kernel) (by decide +kernel)
set_option maxRecDepth 20000 in
theorem gX0_shakeHands_J6_bitCount_0f7a4 : GoodIn wsX0_shakeHands (va_wsS RX0 73 yJ6_bitCount_0f7a4 wsJ6_bitCount_0f7a4) := goodIn_app (goodIn_of _ (by decide +kernel)) ggX0_shakeHands_J6_bitCount_0f7a4
set_option maxRecDepth 20000 in
theorem ggX0_shakeHands_X0_hears : GoodIn wsX0_shakeHands wsX0_hears := goodIn_r _ [14, 2, 15, 16, 17, 13, 18, 19, 20, 21, 22, 50, 51, 52, 53, 54, 55, 56, 57, 58, 59, 60, 61, 62, 63, 64, 65] (by decide +kernel) (by decide +kernel)
set_option maxRecDepth 20000 in
theorem gX0_shakeHands_X0_hears : GoodIn wsX0_shakeHands (wsV RX0 132 RX0 yX0_hears wsX0_hears) := goodIn_app (goodIn_of _ (by decide +kernel)) ggX0_shakeHands_X0_hears
set_option maxRecDepth 20000 in
theorem ggX0_shakeHands_X0_transmit : GoodIn wsX0_shakeHands wsX0_transmit := goodIn_r _ [26, 27, 28, 29, 30, 31, 32, 33, 34, 1, 35, 21, 36, 37, 38, 39, 13, 40, 41, 42, 43, 44, 45, 46, 47, 48, 49, 3, 4, 5, 6, 7, 8, 9, 50, 51, 52, 53, 54, 55, 56, 57, 58, 59, 60, 61, 62, 63, 64, 65] (by decide +kernel) (by decide +kernel)
set_option maxRecDepth 20000 in
theorem gX0_shakeHands_X0_transmit : GoodIn wsX0_shakeHands (wsV RX0 135 RX0 yX0_transmit wsX0_transmit) := goodIn_app (goodIn_of _ (by decide +kernel)) ggX0_shakeHands_X0_transmit
theorem dX0_shakeHands_0 : decode cX0_shakeHands 0 = .ok (.aload_n 0, 1) := by decide +kernel
theorem dX0_shakeHands_1 : decode cX0_shakeHands 1 = .ok (.dup, 1) := by decide +kernel
theorem dX0_shakeHands_2 : decode cX0_shakeHands 2 = .ok (.getfield 55, 3) := by decide +kernel
theorem dX0_shakeHands_5 : decode cX0_shakeHands 5 = .ok (.aload_n 0, 1) := by decide +kernel
theorem dX0_shakeHands_6 : decode cX0_shakeHands 6 = .ok (.getfield 27, 3) := by decide +kernel
theorem dX0_shakeHands_9 : decode cX0_shakeHands 9 = .ok (.iload_n 2, 1) := by decide +kernel
theorem dX0_shakeHands_10 : decode cX0_shakeHands 10 = .ok (.iaload, 1) := by decide +kernel
theorem dX0_shakeHands_11 : decode cX0_shakeHands 11 = .ok (.invokestatic 73, 3) := by decide +kernel
theorem dX0_shakeHands_14 : decode cX0_shakeHands 14 = .ok (.iadd, 1) := by decide +kernel
theorem dX0_shakeHands_15 : decode cX0_shakeHands 15 = .ok (.putfield 55, 3) := by decide +kernel
theorem dX0_shakeHands_18 : decode cX0_shakeHands 18 = .ok (.aload_n 0, 1) := by decide +kernel
theorem dX0_shakeHands_19 : decode cX0_shakeHands 19 = .ok (.iload_n 2, 1) := by decide +kernel
theorem dX0_shakeHands_20 : decode cX0_shakeHands 20 = .ok (.iload_n 3, 1) := by decide +kernel
theorem dX0_shakeHands_21 : decode cX0_shakeHands 21 = .ok (.invokevirtual 132, 3) := by decide +kernel
theorem dX0_shakeHands_24 : decode cX0_shakeHands 24 = .ok (.ifCond .eq 15, 3) := by decide +kernel
theorem dX0_shakeHands_27 : decode cX0_shakeHands 27 = .ok (.aload_n 0, 1) := by decide +kernel
theorem dX0_shakeHands_28 : decode cX0_shakeHands 28 = .ok (.iconst 2, 1) := by decide +kernel
theorem dX0_shakeHands_29 : decode cX0_shakeHands 29 = .ok (.iload_n 1, 1) := by decide +kernel
theorem dX0_shakeHands_30 : decode cX0_shakeHands 30 = .ok (.iload_n 2, 1) := by decide +kernel
theorem dX0_shakeHands_31 : decode cX0_shakeHands 31 = .ok (.iload_n 2, 1) := by decide +kernel
theorem dX0_shakeHands_32 : decode cX0_shakeHands 32 = .ok (.iload_n 3, 1) := by decide +kernel
theorem dX0_shakeHands_33 : decode cX0_shakeHands 33 = .ok (.invokevirtual 135, 3) := by decide +kernel
theorem dX0_shakeHands_36 : decode cX0_shakeHands 36 = .ok (.ifCond .ne 5, 3) := by decide +kernel
theorem dX0_shakeHands_39 : decode cX0_shakeHands 39 = .ok (.iconst 0, 1) := by decide +kernel
theorem dX0_shakeHands_40 : decode cX0_shakeHands 40 = .ok (.ireturn, 1) := by decide +kernel
theorem dX0_shakeHands_41 : decode cX0_shakeHands 41 = .ok (.aload_n 0, 1) := by decide +kernel
theorem dX0_shakeHands_42 : decode cX0_shakeHands 42 = .ok (.dup, 1) := by decide +kernel
theorem dX0_shakeHands_43 : decode cX0_shakeHands 43 = .ok (.getfield 55, 3) := by decide +kernel
theorem dX0_shakeHands_46 : decode cX0_shakeHands 46 = .ok (.iconst 1, 1) := by decide +kernel
theorem dX0_shakeHands_47 : decode cX0_shakeHands 47 = .ok (.iadd, 1) := by decide +kernel
theorem dX0_shakeHands_48 : decode cX0_shakeHands 48 = .ok (.putfield 55, 3) := by decide +kernel
theorem dX0_shakeHands_51 : decode cX0_shakeHands 51 = .ok (.aload_n 0, 1) := by decide +kernel
theorem dX0_shakeHands_52 : decode cX0_shakeHands 52 = .ok (.iconst 3, 1) := by decide +kernel
theorem dX0_shakeHands_53 : decode cX0_shakeHands 53 = .ok (.iload_n 2, 1) := by decide +kernel
theorem dX0_shakeHands_54 : decode cX0_shakeHands 54 = .ok (.iload_n 1, 1) := by decide +kernel
theorem dX0_shakeHands_55 : decode cX0_shakeHands 55 = .ok (.iload_n 1, 1) := by decide +kernel
theorem dX0_shakeHands_56 : decode cX0_shakeHands 56 = .ok (.iload_n 3, 1) := by decide +kernel
theorem dX0_shakeHands_57 : decode cX0_shakeHands 57 = .ok (.invokevirtual 135, 3) := by decide +kernel
theorem dX0_shakeHands_60 : decode cX0_shakeHands 60 = .ok (.ifCond .ne 5, 3) := by decide +kernel
theorem dX0_shakeHands_63 : decode cX0_shakeHands 63 = .ok (.iconst 0, 1) := by decide +kernel
theorem dX0_shakeHands_64 : decode cX0_shakeHands 64 = .ok (.ireturn, 1) := by decide +kernel
theorem dX0_shakeHands_65 : decode cX0_shakeHands 65 = .ok (.aload_n 0, 1) := by decide +kernel
theorem dX0_shakeHands_66 : decode cX0_shakeHands 66 = .ok (.dup, 1) := by decide +kernel
theorem dX0_shakeHands_67 : decode cX0_shakeHands 67 = .ok (.getfield 55, 3) := by decide +kernel
theorem dX0_shakeHands_70 : decode cX0_shakeHands 70 = .ok (.iconst 1, 1) := by decide +kernel
theorem dX0_shakeHands_71 : decode cX0_shakeHands 71 = .ok (.iadd, 1) := by decide +kernel
theorem dX0_shakeHands_72 : decode cX0_shakeHands 72 = .ok (.putfield 55, 3) := by decide +kernel
theorem dX0_shakeHands_75 : decode cX0_shakeHands 75 = .ok (.aload_n 0, 1) := by decide +kernel
theorem dX0_shakeHands_76 : decode cX0_shakeHands 76 = .ok (.iconst 4, 1) := by decide +kernel
theorem dX0_shakeHands_77 : decode cX0_shakeHands 77 = .ok (.iload_n 1, 1) := by decide +kernel
theorem dX0_shakeHands_78 : decode cX0_shakeHands 78 = .ok (.iload_n 2, 1) := by decide +kernel
theorem dX0_shakeHands_79 : decode cX0_shakeHands 79 = .ok (.iload_n 2, 1) := by decide +kernel
theorem dX0_shakeHands_80 : decode cX0_shakeHands 80 = .ok (.iload_n 3, 1) := by decide +kernel
theorem dX0_shakeHands_81 : decode cX0_shakeHands 81 = .ok (.invokevirtual 135, 3) := by decide +kernel
theorem dX0_shakeHands_84 : decode cX0_shakeHands 84 = .ok (.ireturn, 1) := by decide +kernel
set_option maxRecDepth 20000 in
theorem ggX0_callMany_X0_preferredChannel : GoodIn wsX0_callMany wsX0_preferredChannel := goodIn_r _ [8, 9, 10, 11, 12, 7, 13, 14, 15, 16, 17, 18, 19, 20, 21, 22, 23, 24, 25, 26, 27, 28, 29, 30, 3, 31, 32, 33, 34, 35, 36, 37, 38, 39, 40, 41, 94, 95, 96, 97, 98, 99, 100, 101, 102, 103, 104, 105, 106, 107, 108, 109] (by decide +kernel) (by decide +kernel)
set_option maxRecDepth 20000 in
theorem gX0_callMany_X0_preferredChannel : GoodIn wsX0_callMany (wsV RX0 146 RX0 yX0_preferredChannel wsX0_preferredChannel) := goodIn_app (goodIn_of _ (by decide +kernel)) ggX0_callMany_X0_preferredChannel
set_option maxRecDepth 20000 in
theorem ggX0_callMany_X0_longestScan : GoodIn wsX0_callMany wsX0_longestScan := goodIn_r _ [45, 9, 33, 34, 21, 35, 23, 24, 25, 46, 47, 48, 49, 50, 51, 52, 94, 95, 96, 97, 98, 99, 100, 101, 102, 103, 104, 105, 106, 107, 108, 109] (by decide +kernel) (by decide +kernel)
set_option maxRecDepth 20000 in
theorem gX0_callMany_X0_longestScan : GoodIn wsX0_callMany (wsV RX0 129 RX0 yX0_longestScan wsX0_longestScan) := goodIn_app (goodIn_of _ (by decide +kernel)) ggX0_callMany_X0_longestScan
set_option maxRecDepth 20000 in
theorem ggX0_callMany_X1_contains : GoodIn wsX0_callMany wsX1_contains := goodIn_r _ [25] (by decide +kernel) (by decide +kernel)
set_option maxRecDepth 20000 in
theorem gX0_callMany_X1_contains_n89 : GoodIn wsX0_callMany (wsX1_contains) := ggX0_callMany_X1_contains
set_option maxRecDepth 20000 in
theorem ggX0_callMany_X0_answersNetCall : GoodIn wsX0_callMany wsX0_answersNetCall := goodIn_r _ [56, 3, 57, 58, 59, 7, 60, 9, 61, 62, 63, 64, 65, 23, 24, 25, 66, 67, 68, 69, 70, 71, 72, 73, 74, 75, 30, 31, 36, 37, 76, 77, 78, 79, 80, 81, 82, 83, 84, 85, 86, 87, 88, 46, 47, 48, 49, 50, 51, 52, 94, 95, 96, 97, 98, 99, 100, 101, 102, 103, 104, 105, 106, 107, 108, 109] (by decide +kernel) (by decide +kernel)
set_option maxRecDepth 20000 in
theorem gX0_callMany_X0_answersNetCall : GoodIn wsX0_callMany (wsV RX0 149 RX0 yX0_answersNetCall wsX0_answersNetCall) := goodIn_app (goodIn_of _ (by decide +kernel)) ggX0_callMany_X0_answersNetCall
set_option maxRecDepth 20000 in
theorem ggX0_callMany_X0_transmit : GoodIn wsX0_callMany wsX0_transmit := goodIn_r _ [69, 70, 71, 72, 73, 74, 75, 30, 31, 3, 36, 24, 37, 76, 77, 78, 7, 79, 80, 81, 82, 83, 84, 85, 86, 87, 88, 46, 47, 48, 49, 50, 51, 52, 94, 95, 96, 97, 98, 99, 100, 101, 102, 103, 104, 105, 106, 107, 108, 109] (by decide +kernel) (by decide +kernel)
set_option maxRecDepth 20000 in
theorem gX0_callMany_X0_transmit : GoodIn wsX0_callMany (wsV RX0 135 RX0 yX0_transmit wsX0_transmit) := goodIn_app (goodIn_of _ (by decide +kernel)) ggX0_callMany_X0_transmit
set_option maxRecDepth 20000 in
theorem ggX0_callMany_X0_joinLink : GoodIn wsX0_callMany wsX0_joinLink := goodIn_r _ [92, 65, 93, 23, 24, 25, 94, 95, 96, 97, 98, 99, 100, 101, 102, 103, 104, 105, 106, 107, 108, 109] (by decide +kernel) (by decide +kernel)
set_option maxRecDepth 20000 in
theorem gX0_callMany_X0_joinLink : GoodIn wsX0_callMany (wsV RX0 143 RX0 yX0_joinLink wsX0_joinLink) := goodIn_app (goodIn_of _ (by decide +kernel)) ggX0_callMany_X0_joinLink
theorem dX0_callMany_0 : decode cX0_callMany 0 = .ok (.aload_n 0, 1) := by decide +kernel
theorem dX0_callMany_1 : decode cX0_callMany 1 = .ok (.iload_n 1, 1) := by decide +kernel
theorem dX0_callMany_2 : decode cX0_callMany 2 = .ok (.iload_n 2, 1) := by decide +kernel
theorem dX0_callMany_3 : decode cX0_callMany 3 = .ok (.invokevirtual 146, 3) := by decide +kernel
theorem dX0_callMany_6 : decode cX0_callMany 6 = .ok (.istore_n 3, 1) := by decide +kernel
theorem dX0_callMany_7 : decode cX0_callMany 7 = .ok (.aload_n 0, 1) := by decide +kernel
theorem dX0_callMany_8 : decode cX0_callMany 8 = .ok (.iconst 1, 1) := by decide +kernel
theorem dX0_callMany_9 : decode cX0_callMany 9 = .ok (.putfield 64, 3) := by decide +kernel
theorem dX0_callMany_12 : decode cX0_callMany 12 = .ok (.aload_n 0, 1) := by decide +kernel
theorem dX0_callMany_13 : decode cX0_callMany 13 = .ok (.iload_n 3, 1) := by decide +kernel
theorem dX0_callMany_14 : decode cX0_callMany 14 = .ok (.putfield 18, 3) := by decide +kernel
theorem dX0_callMany_17 : decode cX0_callMany 17 = .ok (.aload_n 0, 1) := by decide +kernel
theorem dX0_callMany_18 : decode cX0_callMany 18 = .ok (.dup, 1) := by decide +kernel
theorem dX0_callMany_19 : decode cX0_callMany 19 = .ok (.getfield 55, 3) := by decide +kernel
theorem dX0_callMany_22 : decode cX0_callMany 22 = .ok (.aload_n 0, 1) := by decide +kernel
theorem dX0_callMany_23 : decode cX0_callMany 23 = .ok (.iload_n 2, 1) := by decide +kernel
theorem dX0_callMany_24 : decode cX0_callMany 24 = .ok (.invokevirtual 129, 3) := by decide +kernel
theorem dX0_callMany_27 : decode cX0_callMany 27 = .ok (.iadd, 1) := by decide +kernel
theorem dX0_callMany_28 : decode cX0_callMany 28 = .ok (.putfield 55, 3) := by decide +kernel
theorem dX0_callMany_31 : decode cX0_callMany 31 = .ok (.iconst 0, 1) := by decide +kernel
theorem dX0_callMany_32 : decode cX0_callMany 32 = .ok (.istore 4, 2) := by decide +kernel
theorem dX0_callMany_34 : decode cX0_callMany 34 = .ok (.iconst 0, 1) := by decide +kernel
theorem dX0_callMany_35 : decode cX0_callMany 35 = .ok (.istore 5, 2) := by decide +kernel
theorem dX0_callMany_37 : decode cX0_callMany 37 = .ok (.iload 5, 2) := by decide +kernel
theorem dX0_callMany_39 : decode cX0_callMany 39 = .ok (.iconst 5, 1) := by decide +kernel
theorem dX0_callMany_40 : decode cX0_callMany 40 = .ok (.if_icmp .ge 38, 3) := by decide +kernel
theorem dX0_callMany_43 : decode cX0_callMany 43 = .ok (.iload_n 2, 1) := by decide +kernel
theorem dX0_callMany_44 : decode cX0_callMany 44 = .ok (.iload 5, 2) := by decide +kernel
theorem dX0_callMany_46 : decode cX0_callMany 46 = .ok (.invokestatic 89, 3) := by decide +kernel
theorem dX0_callMany_49 : decode cX0_callMany 49 = .ok (.ifCond .eq 23, 3) := by decide +kernel
theorem dX0_callMany_52 : decode cX0_callMany 52 = .ok (.aload_n 0, 1) := by decide +kernel
theorem dX0_callMany_53 : decode cX0_callMany 53 = .ok (.iload_n 1, 1) := by decide +kernel
theorem dX0_callMany_54 : decode cX0_callMany 54 = .ok (.iload 5, 2) := by decide +kernel
theorem dX0_callMany_56 : decode cX0_callMany 56 = .ok (.iload_n 3, 1) := by decide +kernel
theorem dX0_callMany_57 : decode cX0_callMany 57 = .ok (.invokevirtual 149, 3) := by decide +kernel
theorem dX0_callMany_60 : decode cX0_callMany 60 = .ok (.ifCond .eq 12, 3) := by decide +kernel
theorem dX0_callMany_63 : decode cX0_callMany 63 = .ok (.iload 4, 2) := by decide +kernel
theorem dX0_callMany_65 : decode cX0_callMany 65 = .ok (.iconst 1, 1) := by decide +kernel
theorem dX0_callMany_66 : decode cX0_callMany 66 = .ok (.iload 5, 2) := by decide +kernel
theorem dX0_callMany_68 : decode cX0_callMany 68 = .ok (.ishl, 1) := by decide +kernel
theorem dX0_callMany_69 : decode cX0_callMany 69 = .ok (.ior, 1) := by decide +kernel
theorem dX0_callMany_70 : decode cX0_callMany 70 = .ok (.istore 4, 2) := by decide +kernel
theorem dX0_callMany_72 : decode cX0_callMany 72 = .ok (.iinc 5 1, 3) := by decide +kernel
theorem dX0_callMany_75 : decode cX0_callMany 75 = .ok (.goto (-38), 3) := by decide +kernel
theorem dX0_callMany_78 : decode cX0_callMany 78 = .ok (.aload_n 0, 1) := by decide +kernel
theorem dX0_callMany_79 : decode cX0_callMany 79 = .ok (.dup, 1) := by decide +kernel
theorem dX0_callMany_80 : decode cX0_callMany 80 = .ok (.getfield 55, 3) := by decide +kernel
theorem dX0_callMany_83 : decode cX0_callMany 83 = .ok (.iconst 1, 1) := by decide +kernel
theorem dX0_callMany_84 : decode cX0_callMany 84 = .ok (.iadd, 1) := by decide +kernel
theorem dX0_callMany_85 : decode cX0_callMany 85 = .ok (.putfield 55, 3) := by decide +kernel
theorem dX0_callMany_88 : decode cX0_callMany 88 = .ok (.iconst 0, 1) := by decide +kernel
theorem dX0_callMany_89 : decode cX0_callMany 89 = .ok (.istore 5, 2) := by decide +kernel
theorem dX0_callMany_91 : decode cX0_callMany 91 = .ok (.iconst 0, 1) := by decide +kernel
theorem dX0_callMany_92 : decode cX0_callMany 92 = .ok (.istore 6, 2) := by decide +kernel
theorem dX0_callMany_94 : decode cX0_callMany 94 = .ok (.iload 6, 2) := by decide +kernel
theorem dX0_callMany_96 : decode cX0_callMany 96 = .ok (.iconst 5, 1) := by decide +kernel
theorem dX0_callMany_97 : decode cX0_callMany 97 = .ok (.if_icmp .ge 43, 3) := by decide +kernel
theorem dX0_callMany_100 : decode cX0_callMany 100 = .ok (.iload 4, 2) := by decide +kernel
theorem dX0_callMany_102 : decode cX0_callMany 102 = .ok (.iload 6, 2) := by decide +kernel
theorem dX0_callMany_104 : decode cX0_callMany 104 = .ok (.invokestatic 89, 3) := by decide +kernel
theorem dX0_callMany_107 : decode cX0_callMany 107 = .ok (.ifCond .eq 27, 3) := by decide +kernel
theorem dX0_callMany_110 : decode cX0_callMany 110 = .ok (.aload_n 0, 1) := by decide +kernel
theorem dX0_callMany_111 : decode cX0_callMany 111 = .ok (.iconst 4, 1) := by decide +kernel
theorem dX0_callMany_112 : decode cX0_callMany 112 = .ok (.iload_n 1, 1) := by decide +kernel
theorem dX0_callMany_113 : decode cX0_callMany 113 = .ok (.iload 6, 2) := by decide +kernel
theorem dX0_callMany_115 : decode cX0_callMany 115 = .ok (.sipush 255, 3) := by decide +kernel
theorem dX0_callMany_118 : decode cX0_callMany 118 = .ok (.iload_n 3, 1) := by decide +kernel
theorem dX0_callMany_119 : decode cX0_callMany 119 = .ok (.invokevirtual 135, 3) := by decide +kernel
theorem dX0_callMany_122 : decode cX0_callMany 122 = .ok (.ifCond .eq 12, 3) := by decide +kernel
theorem dX0_callMany_125 : decode cX0_callMany 125 = .ok (.iload 5, 2) := by decide +kernel
theorem dX0_callMany_127 : decode cX0_callMany 127 = .ok (.iconst 1, 1) := by decide +kernel
theorem dX0_callMany_128 : decode cX0_callMany 128 = .ok (.iload 6, 2) := by decide +kernel
theorem dX0_callMany_130 : decode cX0_callMany 130 = .ok (.ishl, 1) := by decide +kernel
theorem dX0_callMany_131 : decode cX0_callMany 131 = .ok (.ior, 1) := by decide +kernel
theorem dX0_callMany_132 : decode cX0_callMany 132 = .ok (.istore 5, 2) := by decide +kernel
theorem dX0_callMany_134 : decode cX0_callMany 134 = .ok (.iinc 6 1, 3) := by decide +kernel
theorem dX0_callMany_137 : decode cX0_callMany 137 = .ok (.goto (-43), 3) := by decide +kernel
theorem dX0_callMany_140 : decode cX0_callMany 140 = .ok (.iload 5, 2) := by decide +kernel
theorem dX0_callMany_142 : decode cX0_callMany 142 = .ok (.ifCond .eq 14, 3) := by decide +kernel
theorem dX0_callMany_145 : decode cX0_callMany 145 = .ok (.aload_n 0, 1) := by decide +kernel
theorem dX0_callMany_146 : decode cX0_callMany 146 = .ok (.iload 5, 2) := by decide +kernel
theorem dX0_callMany_148 : decode cX0_callMany 148 = .ok (.iconst 1, 1) := by decide +kernel
theorem dX0_callMany_149 : decode cX0_callMany 149 = .ok (.iload_n 1, 1) := by decide +kernel
theorem dX0_callMany_150 : decode cX0_callMany 150 = .ok (.ishl, 1) := by decide +kernel
theorem dX0_callMany_151 : decode cX0_callMany 151 = .ok (.ior, 1) := by decide +kernel
theorem dX0_callMany_152 : decode cX0_callMany 152 = .ok (.iload_n 3, 1) := by decide +kernel
theorem dX0_callMany_153 : decode cX0_callMany 153 = .ok (.invokevirtual 143, 3) := by decide +kernel
theorem dX0_callMany_156 : decode cX0_callMany 156 = .ok (.iload 5, 2) := by decide +kernel
theorem dX0_callMany_158 : decode cX0_callMany 158 = .ok (.ireturn, 1) := by decide +kernel
set_option maxRecDepth 20000 in
theorem ggX0_answersNetCall_X0_hears : GoodIn wsX0_answersNetCall wsX0_hears := goodIn_r _ [6, 7, 8, 9, 10, 5, 11, 12, 13, 14, 15, 50, 51, 52, 53, 54, 55, 56, 57, 58, 59, 60, 61, 62, 63, 64, 65] (by decide +kernel) (by decide +kernel)
set_option maxRecDepth 20000 in
theorem gX0_answersNetCall_X0_hears : GoodIn wsX0_answersNetCall (wsV RX0 132 RX0 yX0_hears wsX0_hears) := goodIn_app (goodIn_of _ (by decide +kernel)) ggX0_answersNetCall_X0_hears
set_option maxRecDepth 20000 in
theorem ggX0_answersNetCall_X0_transmit : GoodIn wsX0_answersNetCall wsX0_transmit := goodIn_r _ [19, 20, 21, 22, 23, 24, 25, 26, 27, 1, 28, 14, 29, 30, 31, 32, 5, 33, 34, 35, 36, 37, 38, 39, 40, 41, 42, 43, 44, 45, 46, 47, 48, 49, 50, 51, 52, 53, 54, 55, 56, 57, 58, 59, 60, 61, 62, 63, 64, 65] (by decide +kernel) (by decide +kernel)
set_option maxRecDepth 20000 in
theorem gX0_answersNetCall_X0_transmit : GoodIn wsX0_answersNetCall (wsV RX0 135 RX0 yX0_transmit wsX0_transmit) := goodIn_app (goodIn_of _ (by decide +kernel)) ggX0_answersNetCall_X0_transmit
theorem dX0_answersNetCall_0 : decode cX0_answersNetCall 0 = .ok (.aload_n 0, 1) := by decide +kernel
theorem dX0_answersNetCall_1 : decode cX0_answersNetCall 1 = .ok (.iload_n 2, 1) := by decide +kernel
theorem dX0_answersNetCall_2 : decode cX0_answersNetCall 2 = .ok (.iload_n 3, 1) := by decide +kernel
theorem dX0_answersNetCall_3 : decode cX0_answersNetCall 3 = .ok (.invokevirtual 132, 3) := by decide +kernel
theorem dX0_answersNetCall_6 : decode cX0_answersNetCall 6 = .ok (.ifCond .eq 17, 3) := by decide +kernel
theorem dX0_answersNetCall_9 : decode cX0_answersNetCall 9 = .ok (.aload_n 0, 1) := by decide +kernel
theorem dX0_answersNetCall_10 : decode cX0_answersNetCall 10 = .ok (.iconst 2, 1) := by decide +kernel
theorem dX0_answersNetCall_11 : decode cX0_answersNetCall 11 = .ok (.iload_n 1, 1) := by decide +kernel
theorem dX0_answersNetCall_12 : decode cX0_answersNetCall 12 = .ok (.iload_n 2, 1) := by decide +kernel
theorem dX0_answersNetCall_13 : decode cX0_answersNetCall 13 = .ok (.sipush 255, 3) := by decide +kernel
theorem dX0_answersNetCall_16 : decode cX0_answersNetCall 16 = .ok (.iload_n 3, 1) := by decide +kernel
theorem dX0_answersNetCall_17 : decode cX0_answersNetCall 17 = .ok (.invokevirtual 135, 3) := by decide +kernel
theorem dX0_answersNetCall_20 : decode cX0_answersNetCall 20 = .ok (.ifCond .ne 5, 3) := by decide +kernel
theorem dX0_answersNetCall_23 : decode cX0_answersNetCall 23 = .ok (.iconst 0, 1) := by decide +kernel
theorem dX0_answersNetCall_24 : decode cX0_answersNetCall 24 = .ok (.ireturn, 1) := by decide +kernel
theorem dX0_answersNetCall_25 : decode cX0_answersNetCall 25 = .ok (.aload_n 0, 1) := by decide +kernel
theorem dX0_answersNetCall_26 : decode cX0_answersNetCall 26 = .ok (.dup, 1) := by decide +kernel
theorem dX0_answersNetCall_27 : decode cX0_answersNetCall 27 = .ok (.getfield 55, 3) := by decide +kernel
theorem dX0_answersNetCall_30 : decode cX0_answersNetCall 30 = .ok (.iconst 1, 1) := by decide +kernel
theorem dX0_answersNetCall_31 : decode cX0_answersNetCall 31 = .ok (.iadd, 1) := by decide +kernel
theorem dX0_answersNetCall_32 : decode cX0_answersNetCall 32 = .ok (.putfield 55, 3) := by decide +kernel
theorem dX0_answersNetCall_35 : decode cX0_answersNetCall 35 = .ok (.aload_n 0, 1) := by decide +kernel
theorem dX0_answersNetCall_36 : decode cX0_answersNetCall 36 = .ok (.iconst 3, 1) := by decide +kernel
theorem dX0_answersNetCall_37 : decode cX0_answersNetCall 37 = .ok (.iload_n 2, 1) := by decide +kernel
theorem dX0_answersNetCall_38 : decode cX0_answersNetCall 38 = .ok (.iload_n 1, 1) := by decide +kernel
theorem dX0_answersNetCall_39 : decode cX0_answersNetCall 39 = .ok (.iload_n 1, 1) := by decide +kernel
theorem dX0_answersNetCall_40 : decode cX0_answersNetCall 40 = .ok (.iload_n 3, 1) := by decide +kernel
theorem dX0_answersNetCall_41 : decode cX0_answersNetCall 41 = .ok (.invokevirtual 135, 3) := by decide +kernel
theorem dX0_answersNetCall_44 : decode cX0_answersNetCall 44 = .ok (.ireturn, 1) := by decide +kernel
set_option maxRecDepth 20000 in
theorem ggX0_joinLink_X1_contains : GoodIn wsX0_joinLink wsX1_contains := goodIn_r _ [5] (by decide +kernel) (by decide +kernel)
set_option maxRecDepth 20000 in
theorem gX0_joinLink_X1_contains_n89 : GoodIn wsX0_joinLink (wsX1_contains) := ggX0_joinLink_X1_contains
theorem dX0_joinLink_0 : decode cX0_joinLink 0 = .ok (.iconst 0, 1) := by decide +kernel
theorem dX0_joinLink_1 : decode cX0_joinLink 1 = .ok (.istore_n 3, 1) := by decide +kernel
theorem dX0_joinLink_2 : decode cX0_joinLink 2 = .ok (.iload_n 3, 1) := by decide +kernel
theorem dX0_joinLink_3 : decode cX0_joinLink 3 = .ok (.iconst 5, 1) := by decide +kernel
theorem dX0_joinLink_4 : decode cX0_joinLink 4 = .ok (.if_icmp .ge 31, 3) := by decide +kernel
theorem dX0_joinLink_7 : decode cX0_joinLink 7 = .ok (.iload_n 1, 1) := by decide +kernel
theorem dX0_joinLink_8 : decode cX0_joinLink 8 = .ok (.iload_n 3, 1) := by decide +kernel
theorem dX0_joinLink_9 : decode cX0_joinLink 9 = .ok (.invokestatic 89, 3) := by decide +kernel
theorem dX0_joinLink_12 : decode cX0_joinLink 12 = .ok (.ifCond .eq 17, 3) := by decide +kernel
theorem dX0_joinLink_15 : decode cX0_joinLink 15 = .ok (.aload_n 0, 1) := by decide +kernel
theorem dX0_joinLink_16 : decode cX0_joinLink 16 = .ok (.getfield 31, 3) := by decide +kernel
theorem dX0_joinLink_19 : decode cX0_joinLink 19 = .ok (.iload_n 3, 1) := by decide +kernel
theorem dX0_joinLink_20 : decode cX0_joinLink 20 = .ok (.iload_n 1, 1) := by decide +kernel
theorem dX0_joinLink_21 : decode cX0_joinLink 21 = .ok (.iastore, 1) := by decide +kernel
theorem dX0_joinLink_22 : decode cX0_joinLink 22 = .ok (.aload_n 0, 1) := by decide +kernel
theorem dX0_joinLink_23 : decode cX0_joinLink 23 = .ok (.getfield 34, 3) := by decide +kernel
theorem dX0_joinLink_26 : decode cX0_joinLink 26 = .ok (.iload_n 3, 1) := by decide +kernel
theorem dX0_joinLink_27 : decode cX0_joinLink 27 = .ok (.iload_n 2, 1) := by decide +kernel
theorem dX0_joinLink_28 : decode cX0_joinLink 28 = .ok (.iastore, 1) := by decide +kernel
theorem dX0_joinLink_29 : decode cX0_joinLink 29 = .ok (.iinc 3 1, 3) := by decide +kernel
theorem dX0_joinLink_32 : decode cX0_joinLink 32 = .ok (.goto (-30), 3) := by decide +kernel
theorem dX0_joinLink_35 : decode cX0_joinLink 35 = .ok (.return_, 1) := by decide +kernel
theorem dX0_dropLink_0 : decode cX0_dropLink 0 = .ok (.aload_n 0, 1) := by decide +kernel
theorem dX0_dropLink_1 : decode cX0_dropLink 1 = .ok (.getfield 31, 3) := by decide +kernel
theorem dX0_dropLink_4 : decode cX0_dropLink 4 = .ok (.iload_n 1, 1) := by decide +kernel
theorem dX0_dropLink_5 : decode cX0_dropLink 5 = .ok (.iconst 0, 1) := by decide +kernel
theorem dX0_dropLink_6 : decode cX0_dropLink 6 = .ok (.iastore, 1) := by decide +kernel
theorem dX0_dropLink_7 : decode cX0_dropLink 7 = .ok (.aload_n 0, 1) := by decide +kernel
theorem dX0_dropLink_8 : decode cX0_dropLink 8 = .ok (.getfield 34, 3) := by decide +kernel
theorem dX0_dropLink_11 : decode cX0_dropLink 11 = .ok (.iload_n 1, 1) := by decide +kernel
theorem dX0_dropLink_12 : decode cX0_dropLink 12 = .ok (.iconst (-1), 1) := by decide +kernel
theorem dX0_dropLink_13 : decode cX0_dropLink 13 = .ok (.iastore, 1) := by decide +kernel
theorem dX0_dropLink_14 : decode cX0_dropLink 14 = .ok (.return_, 1) := by decide +kernel
set_option maxRecDepth 20000 in
theorem ggX0_leaveLink_J6_bitCount_0f7a4 : GoodIn wsX0_leaveLink wsJ6_bitCount_0f7a4 := goodIn_r _ [5, 6, 7, 8] (by decide +kernel) (by decide +kernel)
set_option maxRecDepth 20000 in
theorem gX0_leaveLink_J6_bitCount_0f7a4 : GoodIn wsX0_leaveLink (va_wsS RX0 73 yJ6_bitCount_0f7a4 wsJ6_bitCount_0f7a4) := goodIn_app (goodIn_of _ (by decide +kernel)) ggX0_leaveLink_J6_bitCount_0f7a4
set_option maxRecDepth 20000 in
theorem ggX0_leaveLink_X0_dropLink : GoodIn wsX0_leaveLink wsX0_dropLink := goodIn_r _ [13, 1, 14, 18, 19, 20, 21, 22, 23, 24, 25, 26, 27, 28, 29, 30, 31, 32, 33] (by decide +kernel) (by decide +kernel)
set_option maxRecDepth 20000 in
theorem gX0_leaveLink_X0_dropLink : GoodIn wsX0_leaveLink (wsV RX0 152 RX0 yX0_dropLink wsX0_dropLink) := goodIn_app (goodIn_of _ (by decide +kernel)) ggX0_leaveLink_X0_dropLink
set_option maxRecDepth 20000 in
theorem ggX0_leaveLink_X1_contains : GoodIn wsX0_leaveLink wsX1_contains := goodIn_r _ [17] (by decide +kernel) (by decide +kernel)
set_option maxRecDepth 20000 in
theorem gX0_leaveLink_X1_contains_n89 : GoodIn wsX0_leaveLink (wsX1_contains) := ggX0_leaveLink_X1_contains
theorem dX0_leaveLink_0 : decode cX0_leaveLink 0 = .ok (.aload_n 0, 1) := by decide +kernel
theorem dX0_leaveLink_1 : decode cX0_leaveLink 1 = .ok (.getfield 31, 3) := by decide +kernel
theorem dX0_leaveLink_4 : decode cX0_leaveLink 4 = .ok (.iload_n 1, 1) := by decide +kernel
theorem dX0_leaveLink_5 : decode cX0_leaveLink 5 = .ok (.iaload, 1) := by decide +kernel
theorem dX0_leaveLink_6 : decode cX0_leaveLink 6 = .ok (.iconst 1, 1) := by decide +kernel
theorem dX0_leaveLink_7 : decode cX0_leaveLink 7 = .ok (.iload_n 1, 1) := by decide +kernel
theorem dX0_leaveLink_8 : decode cX0_leaveLink 8 = .ok (.ishl, 1) := by decide +kernel
theorem dX0_leaveLink_9 : decode cX0_leaveLink 9 = .ok (.iconst (-1), 1) := by decide +kernel
theorem dX0_leaveLink_10 : decode cX0_leaveLink 10 = .ok (.ixor, 1) := by decide +kernel
theorem dX0_leaveLink_11 : decode cX0_leaveLink 11 = .ok (.iand, 1) := by decide +kernel
theorem dX0_leaveLink_12 : decode cX0_leaveLink 12 = .ok (.istore_n 2, 1) := by decide +kernel
theorem dX0_leaveLink_13 : decode cX0_leaveLink 13 = .ok (.iload_n 2, 1) := by decide +kernel
theorem dX0_leaveLink_14 : decode cX0_leaveLink 14 = .ok (.invokestatic 73, 3) := by decide +kernel
theorem dX0_leaveLink_17 : decode cX0_leaveLink 17 = .ok (.iconst 2, 1) := by decide +kernel
theorem dX0_leaveLink_18 : decode cX0_leaveLink 18 = .ok (.if_icmp .ge 7, 3) := by decide +kernel
theorem dX0_leaveLink_21 : decode cX0_leaveLink 21 = .ok (.iconst 1, 1) := by decide +kernel
theorem dX0_leaveLink_22 : decode cX0_leaveLink 22 = .ok (.goto 4, 3) := by decide +kernel
theorem dX0_leaveLink_25 : decode cX0_leaveLink 25 = .ok (.iconst 0, 1) := by decide +kernel
theorem dX0_leaveLink_26 : decode cX0_leaveLink 26 = .ok (.istore_n 3, 1) := by decide +kernel
theorem dX0_leaveLink_27 : decode cX0_leaveLink 27 = .ok (.aload_n 0, 1) := by decide +kernel
theorem dX0_leaveLink_28 : decode cX0_leaveLink 28 = .ok (.iload_n 1, 1) := by decide +kernel
theorem dX0_leaveLink_29 : decode cX0_leaveLink 29 = .ok (.invokevirtual 152, 3) := by decide +kernel
theorem dX0_leaveLink_32 : decode cX0_leaveLink 32 = .ok (.iconst 0, 1) := by decide +kernel
theorem dX0_leaveLink_33 : decode cX0_leaveLink 33 = .ok (.istore 4, 2) := by decide +kernel
theorem dX0_leaveLink_35 : decode cX0_leaveLink 35 = .ok (.iload 4, 2) := by decide +kernel
theorem dX0_leaveLink_37 : decode cX0_leaveLink 37 = .ok (.iconst 5, 1) := by decide +kernel
theorem dX0_leaveLink_38 : decode cX0_leaveLink 38 = .ok (.if_icmp .ge 39, 3) := by decide +kernel
theorem dX0_leaveLink_41 : decode cX0_leaveLink 41 = .ok (.iload_n 2, 1) := by decide +kernel
theorem dX0_leaveLink_42 : decode cX0_leaveLink 42 = .ok (.iload 4, 2) := by decide +kernel
theorem dX0_leaveLink_44 : decode cX0_leaveLink 44 = .ok (.invokestatic 89, 3) := by decide +kernel
theorem dX0_leaveLink_47 : decode cX0_leaveLink 47 = .ok (.ifCond .eq 24, 3) := by decide +kernel
theorem dX0_leaveLink_50 : decode cX0_leaveLink 50 = .ok (.iload_n 3, 1) := by decide +kernel
theorem dX0_leaveLink_51 : decode cX0_leaveLink 51 = .ok (.ifCond .eq 12, 3) := by decide +kernel
theorem dX0_leaveLink_54 : decode cX0_leaveLink 54 = .ok (.aload_n 0, 1) := by decide +kernel
theorem dX0_leaveLink_55 : decode cX0_leaveLink 55 = .ok (.iload 4, 2) := by decide +kernel
theorem dX0_leaveLink_57 : decode cX0_leaveLink 57 = .ok (.invokevirtual 152, 3) := by decide +kernel
theorem dX0_leaveLink_60 : decode cX0_leaveLink 60 = .ok (.goto 11, 3) := by decide +kernel
theorem dX0_leaveLink_63 : decode cX0_leaveLink 63 = .ok (.aload_n 0, 1) := by decide +kernel
theorem dX0_leaveLink_64 : decode cX0_leaveLink 64 = .ok (.getfield 31, 3) := by decide +kernel
theorem dX0_leaveLink_67 : decode cX0_leaveLink 67 = .ok (.iload 4, 2) := by decide +kernel
theorem dX0_leaveLink_69 : decode cX0_leaveLink 69 = .ok (.iload_n 2, 1) := by decide +kernel
theorem dX0_leaveLink_70 : decode cX0_leaveLink 70 = .ok (.iastore, 1) := by decide +kernel
theorem dX0_leaveLink_71 : decode cX0_leaveLink 71 = .ok (.iinc 4 1, 3) := by decide +kernel
theorem dX0_leaveLink_74 : decode cX0_leaveLink 74 = .ok (.goto (-39), 3) := by decide +kernel
theorem dX0_leaveLink_77 : decode cX0_leaveLink 77 = .ok (.iload_n 3, 1) := by decide +kernel
theorem dX0_leaveLink_78 : decode cX0_leaveLink 78 = .ok (.ifCond .eq 7, 3) := by decide +kernel
theorem dX0_leaveLink_81 : decode cX0_leaveLink 81 = .ok (.iconst 0, 1) := by decide +kernel
theorem dX0_leaveLink_82 : decode cX0_leaveLink 82 = .ok (.goto 4, 3) := by decide +kernel
theorem dX0_leaveLink_85 : decode cX0_leaveLink 85 = .ok (.iload_n 2, 1) := by decide +kernel
theorem dX0_leaveLink_86 : decode cX0_leaveLink 86 = .ok (.ireturn, 1) := by decide +kernel
set_option maxRecDepth 20000 in
theorem ggX0_mixCounters_X1_mix : GoodIn wsX0_mixCounters wsX1_mix := goodIn_r _ [12, 13] (by decide +kernel) (by decide +kernel)
set_option maxRecDepth 20000 in
theorem gX0_mixCounters_X1_mix_n156 : GoodIn wsX0_mixCounters (wsX1_mix) := ggX0_mixCounters_X1_mix
theorem dX0_mixCounters_0 : decode cX0_mixCounters 0 = .ok (.lload_n 1, 1) := by decide +kernel
theorem dX0_mixCounters_1 : decode cX0_mixCounters 1 = .ok (.aload_n 0, 1) := by decide +kernel
theorem dX0_mixCounters_2 : decode cX0_mixCounters 2 = .ok (.getfield 55, 3) := by decide +kernel
theorem dX0_mixCounters_5 : decode cX0_mixCounters 5 = .ok (.i2l, 1) := by decide +kernel
theorem dX0_mixCounters_6 : decode cX0_mixCounters 6 = .ok (.invokestatic 156, 3) := by decide +kernel
theorem dX0_mixCounters_9 : decode cX0_mixCounters 9 = .ok (.lstore_n 3, 1) := by decide +kernel
theorem dX0_mixCounters_10 : decode cX0_mixCounters 10 = .ok (.lload_n 3, 1) := by decide +kernel
theorem dX0_mixCounters_11 : decode cX0_mixCounters 11 = .ok (.aload_n 0, 1) := by decide +kernel
theorem dX0_mixCounters_12 : decode cX0_mixCounters 12 = .ok (.getfield 9, 3) := by decide +kernel
theorem dX0_mixCounters_15 : decode cX0_mixCounters 15 = .ok (.i2l, 1) := by decide +kernel
theorem dX0_mixCounters_16 : decode cX0_mixCounters 16 = .ok (.invokestatic 156, 3) := by decide +kernel
theorem dX0_mixCounters_19 : decode cX0_mixCounters 19 = .ok (.lstore_n 3, 1) := by decide +kernel
theorem dX0_mixCounters_20 : decode cX0_mixCounters 20 = .ok (.lload_n 3, 1) := by decide +kernel
theorem dX0_mixCounters_21 : decode cX0_mixCounters 21 = .ok (.aload_n 0, 1) := by decide +kernel
theorem dX0_mixCounters_22 : decode cX0_mixCounters 22 = .ok (.getfield 15, 3) := by decide +kernel
theorem dX0_mixCounters_25 : decode cX0_mixCounters 25 = .ok (.i2l, 1) := by decide +kernel
theorem dX0_mixCounters_26 : decode cX0_mixCounters 26 = .ok (.invokestatic 156, 3) := by decide +kernel
theorem dX0_mixCounters_29 : decode cX0_mixCounters 29 = .ok (.lstore_n 3, 1) := by decide +kernel
theorem dX0_mixCounters_30 : decode cX0_mixCounters 30 = .ok (.lload_n 3, 1) := by decide +kernel
theorem dX0_mixCounters_31 : decode cX0_mixCounters 31 = .ok (.aload_n 0, 1) := by decide +kernel
theorem dX0_mixCounters_32 : decode cX0_mixCounters 32 = .ok (.getfield 58, 3) := by decide +kernel
theorem dX0_mixCounters_35 : decode cX0_mixCounters 35 = .ok (.i2l, 1) := by decide +kernel
theorem dX0_mixCounters_36 : decode cX0_mixCounters 36 = .ok (.invokestatic 156, 3) := by decide +kernel
theorem dX0_mixCounters_39 : decode cX0_mixCounters 39 = .ok (.lstore_n 3, 1) := by decide +kernel
theorem dX0_mixCounters_40 : decode cX0_mixCounters 40 = .ok (.lload_n 3, 1) := by decide +kernel
theorem dX0_mixCounters_41 : decode cX0_mixCounters 41 = .ok (.aload_n 0, 1) := by decide +kernel
theorem dX0_mixCounters_42 : decode cX0_mixCounters 42 = .ok (.getfield 61, 3) := by decide +kernel
theorem dX0_mixCounters_45 : decode cX0_mixCounters 45 = .ok (.i2l, 1) := by decide +kernel
theorem dX0_mixCounters_46 : decode cX0_mixCounters 46 = .ok (.invokestatic 156, 3) := by decide +kernel
theorem dX0_mixCounters_49 : decode cX0_mixCounters 49 = .ok (.lstore_n 3, 1) := by decide +kernel
theorem dX0_mixCounters_50 : decode cX0_mixCounters 50 = .ok (.lload_n 3, 1) := by decide +kernel
theorem dX0_mixCounters_51 : decode cX0_mixCounters 51 = .ok (.aload_n 0, 1) := by decide +kernel
theorem dX0_mixCounters_52 : decode cX0_mixCounters 52 = .ok (.getfield 64, 3) := by decide +kernel
theorem dX0_mixCounters_55 : decode cX0_mixCounters 55 = .ok (.i2l, 1) := by decide +kernel
theorem dX0_mixCounters_56 : decode cX0_mixCounters 56 = .ok (.invokestatic 156, 3) := by decide +kernel
theorem dX0_mixCounters_59 : decode cX0_mixCounters 59 = .ok (.lstore_n 3, 1) := by decide +kernel
theorem dX0_mixCounters_60 : decode cX0_mixCounters 60 = .ok (.lload_n 3, 1) := by decide +kernel
theorem dX0_mixCounters_61 : decode cX0_mixCounters 61 = .ok (.aload_n 0, 1) := by decide +kernel
theorem dX0_mixCounters_62 : decode cX0_mixCounters 62 = .ok (.getfield 18, 3) := by decide +kernel
theorem dX0_mixCounters_65 : decode cX0_mixCounters 65 = .ok (.i2l, 1) := by decide +kernel
theorem dX0_mixCounters_66 : decode cX0_mixCounters 66 = .ok (.invokestatic 156, 3) := by decide +kernel
theorem dX0_mixCounters_69 : decode cX0_mixCounters 69 = .ok (.lstore_n 3, 1) := by decide +kernel
theorem dX0_mixCounters_70 : decode cX0_mixCounters 70 = .ok (.lload_n 3, 1) := by decide +kernel
theorem dX0_mixCounters_71 : decode cX0_mixCounters 71 = .ok (.aload_n 0, 1) := by decide +kernel
theorem dX0_mixCounters_72 : decode cX0_mixCounters 72 = .ok (.getfield 21, 3) := by decide +kernel
theorem dX0_mixCounters_75 : decode cX0_mixCounters 75 = .ok (.i2l, 1) := by decide +kernel
theorem dX0_mixCounters_76 : decode cX0_mixCounters 76 = .ok (.invokestatic 156, 3) := by decide +kernel
theorem dX0_mixCounters_79 : decode cX0_mixCounters 79 = .ok (.lstore_n 3, 1) := by decide +kernel
theorem dX0_mixCounters_80 : decode cX0_mixCounters 80 = .ok (.lload_n 3, 1) := by decide +kernel
theorem dX0_mixCounters_81 : decode cX0_mixCounters 81 = .ok (.aload_n 0, 1) := by decide +kernel
theorem dX0_mixCounters_82 : decode cX0_mixCounters 82 = .ok (.getfield 24, 3) := by decide +kernel
theorem dX0_mixCounters_85 : decode cX0_mixCounters 85 = .ok (.i2l, 1) := by decide +kernel
theorem dX0_mixCounters_86 : decode cX0_mixCounters 86 = .ok (.invokestatic 156, 3) := by decide +kernel
theorem dX0_mixCounters_89 : decode cX0_mixCounters 89 = .ok (.lreturn, 1) := by decide +kernel
set_option maxRecDepth 20000 in
theorem ggX0_mixStations_X1_mix : GoodIn wsX0_mixStations wsX1_mix := goodIn_r _ [6, 7] (by decide +kernel) (by decide +kernel)
set_option maxRecDepth 20000 in
theorem gX0_mixStations_X1_mix_n156 : GoodIn wsX0_mixStations (wsX1_mix) := ggX0_mixStations_X1_mix
theorem dX0_mixStations_0 : decode cX0_mixStations 0 = .ok (.lload_n 1, 1) := by decide +kernel
theorem dX0_mixStations_1 : decode cX0_mixStations 1 = .ok (.lstore_n 3, 1) := by decide +kernel
theorem dX0_mixStations_2 : decode cX0_mixStations 2 = .ok (.iconst 0, 1) := by decide +kernel
theorem dX0_mixStations_3 : decode cX0_mixStations 3 = .ok (.istore 5, 2) := by decide +kernel
theorem dX0_mixStations_5 : decode cX0_mixStations 5 = .ok (.iload 5, 2) := by decide +kernel
theorem dX0_mixStations_7 : decode cX0_mixStations 7 = .ok (.iconst 5, 1) := by decide +kernel
theorem dX0_mixStations_8 : decode cX0_mixStations 8 = .ok (.if_icmp .ge 48, 3) := by decide +kernel
theorem dX0_mixStations_11 : decode cX0_mixStations 11 = .ok (.lload_n 3, 1) := by decide +kernel
theorem dX0_mixStations_12 : decode cX0_mixStations 12 = .ok (.aload_n 0, 1) := by decide +kernel
theorem dX0_mixStations_13 : decode cX0_mixStations 13 = .ok (.getfield 27, 3) := by decide +kernel
theorem dX0_mixStations_16 : decode cX0_mixStations 16 = .ok (.iload 5, 2) := by decide +kernel
theorem dX0_mixStations_18 : decode cX0_mixStations 18 = .ok (.iaload, 1) := by decide +kernel
theorem dX0_mixStations_19 : decode cX0_mixStations 19 = .ok (.i2l, 1) := by decide +kernel
theorem dX0_mixStations_20 : decode cX0_mixStations 20 = .ok (.invokestatic 156, 3) := by decide +kernel
theorem dX0_mixStations_23 : decode cX0_mixStations 23 = .ok (.lstore_n 3, 1) := by decide +kernel
theorem dX0_mixStations_24 : decode cX0_mixStations 24 = .ok (.lload_n 3, 1) := by decide +kernel
theorem dX0_mixStations_25 : decode cX0_mixStations 25 = .ok (.aload_n 0, 1) := by decide +kernel
theorem dX0_mixStations_26 : decode cX0_mixStations 26 = .ok (.getfield 31, 3) := by decide +kernel
theorem dX0_mixStations_29 : decode cX0_mixStations 29 = .ok (.iload 5, 2) := by decide +kernel
theorem dX0_mixStations_31 : decode cX0_mixStations 31 = .ok (.iaload, 1) := by decide +kernel
theorem dX0_mixStations_32 : decode cX0_mixStations 32 = .ok (.i2l, 1) := by decide +kernel
theorem dX0_mixStations_33 : decode cX0_mixStations 33 = .ok (.invokestatic 156, 3) := by decide +kernel
theorem dX0_mixStations_36 : decode cX0_mixStations 36 = .ok (.lstore_n 3, 1) := by decide +kernel
theorem dX0_mixStations_37 : decode cX0_mixStations 37 = .ok (.lload_n 3, 1) := by decide +kernel
theorem dX0_mixStations_38 : decode cX0_mixStations 38 = .ok (.aload_n 0, 1) := by decide +kernel
theorem dX0_mixStations_39 : decode cX0_mixStations 39 = .ok (.getfield 34, 3) := by decide +kernel
theorem dX0_mixStations_42 : decode cX0_mixStations 42 = .ok (.iload 5, 2) := by decide +kernel
theorem dX0_mixStations_44 : decode cX0_mixStations 44 = .ok (.iaload, 1) := by decide +kernel
theorem dX0_mixStations_45 : decode cX0_mixStations 45 = .ok (.i2l, 1) := by decide +kernel
theorem dX0_mixStations_46 : decode cX0_mixStations 46 = .ok (.invokestatic 156, 3) := by decide +kernel
theorem dX0_mixStations_49 : decode cX0_mixStations 49 = .ok (.lstore_n 3, 1) := by decide +kernel
theorem dX0_mixStations_50 : decode cX0_mixStations 50 = .ok (.iinc 5 1, 3) := by decide +kernel
theorem dX0_mixStations_53 : decode cX0_mixStations 53 = .ok (.goto (-48), 3) := by decide +kernel
theorem dX0_mixStations_56 : decode cX0_mixStations 56 = .ok (.lload_n 3, 1) := by decide +kernel
theorem dX0_mixStations_57 : decode cX0_mixStations 57 = .ok (.lreturn, 1) := by decide +kernel
set_option maxRecDepth 20000 in
theorem ggX0_mixScores_X1_cell : GoodIn wsX0_mixScores wsX1_cell := goodIn_r _ [4] (by decide +kernel) (by decide +kernel)
set_option maxRecDepth 20000 in
theorem gX0_mixScores_X1_cell_n103 : GoodIn wsX0_mixScores (wsX1_cell) := ggX0_mixScores_X1_cell
set_option maxRecDepth 20000 in
theorem ggX0_mixScores_X1_mix : GoodIn wsX0_mixScores wsX1_mix := goodIn_r _ [6, 7] (by decide +kernel) (by decide +kernel)
set_option maxRecDepth 20000 in
theorem gX0_mixScores_X1_mix_n156 : GoodIn wsX0_mixScores (wsX1_mix) := ggX0_mixScores_X1_mix
set_option maxRecDepth 20000 in
theorem ggX0_mixScores_X0_agedScore : GoodIn wsX0_mixScores wsX0_agedScore := goodIn_r _ [12, 1, 13, 14, 15, 16, 17, 18, 19, 2, 3, 4, 20, 21, 22, 23, 24, 25, 26, 27, 28, 29, 30, 31, 32, 33, 34, 35] (by decide +kernel) (by decide +kernel)
set_option maxRecDepth 20000 in
theorem gX0_mixScores_X0_agedScore : GoodIn wsX0_mixScores (wsV RX0 113 RX0 yX0_agedScore wsX0_agedScore) := goodIn_app (goodIn_of _ (by decide +kernel)) ggX0_mixScores_X0_agedScore
theorem dX0_mixScores_0 : decode cX0_mixScores 0 = .ok (.lload_n 1, 1) := by decide +kernel
theorem dX0_mixScores_1 : decode cX0_mixScores 1 = .ok (.lstore_n 3, 1) := by decide +kernel
theorem dX0_mixScores_2 : decode cX0_mixScores 2 = .ok (.iconst 0, 1) := by decide +kernel
theorem dX0_mixScores_3 : decode cX0_mixScores 3 = .ok (.istore 5, 2) := by decide +kernel
theorem dX0_mixScores_5 : decode cX0_mixScores 5 = .ok (.iload 5, 2) := by decide +kernel
theorem dX0_mixScores_7 : decode cX0_mixScores 7 = .ok (.iconst 5, 1) := by decide +kernel
theorem dX0_mixScores_8 : decode cX0_mixScores 8 = .ok (.if_icmp .ge 83, 3) := by decide +kernel
theorem dX0_mixScores_11 : decode cX0_mixScores 11 = .ok (.iconst 0, 1) := by decide +kernel
theorem dX0_mixScores_12 : decode cX0_mixScores 12 = .ok (.istore 6, 2) := by decide +kernel
theorem dX0_mixScores_14 : decode cX0_mixScores 14 = .ok (.iload 6, 2) := by decide +kernel
theorem dX0_mixScores_16 : decode cX0_mixScores 16 = .ok (.iconst 5, 1) := by decide +kernel
theorem dX0_mixScores_17 : decode cX0_mixScores 17 = .ok (.if_icmp .ge 68, 3) := by decide +kernel
theorem dX0_mixScores_20 : decode cX0_mixScores 20 = .ok (.iconst 0, 1) := by decide +kernel
theorem dX0_mixScores_21 : decode cX0_mixScores 21 = .ok (.istore 7, 2) := by decide +kernel
theorem dX0_mixScores_23 : decode cX0_mixScores 23 = .ok (.iload 7, 2) := by decide +kernel
theorem dX0_mixScores_25 : decode cX0_mixScores 25 = .ok (.bipush 8, 2) := by decide +kernel
theorem dX0_mixScores_27 : decode cX0_mixScores 27 = .ok (.if_icmp .ge 52, 3) := by decide +kernel
theorem dX0_mixScores_30 : decode cX0_mixScores 30 = .ok (.iload 6, 2) := by decide +kernel
theorem dX0_mixScores_32 : decode cX0_mixScores 32 = .ok (.iload 5, 2) := by decide +kernel
theorem dX0_mixScores_34 : decode cX0_mixScores 34 = .ok (.if_icmp .eq 45, 3) := by decide +kernel
theorem dX0_mixScores_37 : decode cX0_mixScores 37 = .ok (.lload_n 3, 1) := by decide +kernel
theorem dX0_mixScores_38 : decode cX0_mixScores 38 = .ok (.aload_n 0, 1) := by decide +kernel
theorem dX0_mixScores_39 : decode cX0_mixScores 39 = .ok (.getfield 40, 3) := by decide +kernel
theorem dX0_mixScores_42 : decode cX0_mixScores 42 = .ok (.iload 5, 2) := by decide +kernel
theorem dX0_mixScores_44 : decode cX0_mixScores 44 = .ok (.iload 6, 2) := by decide +kernel
theorem dX0_mixScores_46 : decode cX0_mixScores 46 = .ok (.iload 7, 2) := by decide +kernel
theorem dX0_mixScores_48 : decode cX0_mixScores 48 = .ok (.invokestatic 103, 3) := by decide +kernel
theorem dX0_mixScores_51 : decode cX0_mixScores 51 = .ok (.iaload, 1) := by decide +kernel
theorem dX0_mixScores_52 : decode cX0_mixScores 52 = .ok (.i2l, 1) := by decide +kernel
theorem dX0_mixScores_53 : decode cX0_mixScores 53 = .ok (.invokestatic 156, 3) := by decide +kernel
theorem dX0_mixScores_56 : decode cX0_mixScores 56 = .ok (.lstore_n 3, 1) := by decide +kernel
theorem dX0_mixScores_57 : decode cX0_mixScores 57 = .ok (.lload_n 3, 1) := by decide +kernel
theorem dX0_mixScores_58 : decode cX0_mixScores 58 = .ok (.aload_n 0, 1) := by decide +kernel
theorem dX0_mixScores_59 : decode cX0_mixScores 59 = .ok (.iload 5, 2) := by decide +kernel
theorem dX0_mixScores_61 : decode cX0_mixScores 61 = .ok (.iload 6, 2) := by decide +kernel
theorem dX0_mixScores_63 : decode cX0_mixScores 63 = .ok (.iload 7, 2) := by decide +kernel
theorem dX0_mixScores_65 : decode cX0_mixScores 65 = .ok (.invokevirtual 113, 3) := by decide +kernel
theorem dX0_mixScores_68 : decode cX0_mixScores 68 = .ok (.i2l, 1) := by decide +kernel
theorem dX0_mixScores_69 : decode cX0_mixScores 69 = .ok (.invokestatic 156, 3) := by decide +kernel
theorem dX0_mixScores_72 : decode cX0_mixScores 72 = .ok (.lstore_n 3, 1) := by decide +kernel
theorem dX0_mixScores_73 : decode cX0_mixScores 73 = .ok (.iinc 7 1, 3) := by decide +kernel
theorem dX0_mixScores_76 : decode cX0_mixScores 76 = .ok (.goto (-53), 3) := by decide +kernel
theorem dX0_mixScores_79 : decode cX0_mixScores 79 = .ok (.iinc 6 1, 3) := by decide +kernel
theorem dX0_mixScores_82 : decode cX0_mixScores 82 = .ok (.goto (-68), 3) := by decide +kernel
theorem dX0_mixScores_85 : decode cX0_mixScores 85 = .ok (.iinc 5 1, 3) := by decide +kernel
theorem dX0_mixScores_88 : decode cX0_mixScores 88 = .ok (.goto (-83), 3) := by decide +kernel
theorem dX0_mixScores_91 : decode cX0_mixScores 91 = .ok (.lload_n 3, 1) := by decide +kernel
theorem dX0_mixScores_92 : decode cX0_mixScores 92 = .ok (.lreturn, 1) := by decide +kernel
set_option maxRecDepth 20000 in
theorem ggX1_init_X0_init : GoodIn wsX1_init wsX0_init := goodIn_r _ [11, 12, 2, 3, 13, 14, 15, 16, 17, 18, 19, 20, 21, 22, 23, 24, 25, 26, 27, 28, 29, 30, 31, 32, 33, 34, 35, 36, 37, 38, 39, 40, 41, 42, 43, 44, 45] (by decide +kernel) (by decide +kernel)
set_option maxRecDepth 20000 in
theorem gX1_init_X0_init : GoodIn wsX1_init (wsX0_init) := ggX1_init_X0_init
theorem dX1_init_0 : decode cX1_init 0 = .ok (.aload_n 0, 1) := by decide +kernel
theorem dX1_init_1 : decode cX1_init 1 = .ok (.invokespecial 3, 3) := by decide +kernel
theorem dX1_init_4 : decode cX1_init 4 = .ok (.aload_n 0, 1) := by decide +kernel
theorem dX1_init_5 : decode cX1_init 5 = .ok (.new 9, 3) := by decide +kernel
theorem dX1_init_8 : decode cX1_init 8 = .ok (.dup, 1) := by decide +kernel
theorem dX1_init_9 : decode cX1_init 9 = .ok (.invokespecial 11, 3) := by decide +kernel
theorem dX1_init_12 : decode cX1_init 12 = .ok (.putfield 12, 3) := by decide +kernel
theorem dX1_init_15 : decode cX1_init 15 = .ok (.aload_n 0, 1) := by decide +kernel
theorem dX1_init_16 : decode cX1_init 16 = .ok (.iconst 4, 1) := by decide +kernel
theorem dX1_init_17 : decode cX1_init 17 = .ok (.anewarray 9, 3) := by decide +kernel
theorem dX1_init_20 : decode cX1_init 20 = .ok (.putfield 16, 3) := by decide +kernel
theorem dX1_init_23 : decode cX1_init 23 = .ok (.iconst 0, 1) := by decide +kernel
theorem dX1_init_24 : decode cX1_init 24 = .ok (.istore_n 1, 1) := by decide +kernel
theorem dX1_init_25 : decode cX1_init 25 = .ok (.iload_n 1, 1) := by decide +kernel
theorem dX1_init_26 : decode cX1_init 26 = .ok (.iconst 4, 1) := by decide +kernel
theorem dX1_init_27 : decode cX1_init 27 = .ok (.if_icmp .ge 22, 3) := by decide +kernel
theorem dX1_init_30 : decode cX1_init 30 = .ok (.aload_n 0, 1) := by decide +kernel
theorem dX1_init_31 : decode cX1_init 31 = .ok (.getfield 16, 3) := by decide +kernel
theorem dX1_init_34 : decode cX1_init 34 = .ok (.iload_n 1, 1) := by decide +kernel
theorem dX1_init_35 : decode cX1_init 35 = .ok (.new 9, 3) := by decide +kernel
theorem dX1_init_38 : decode cX1_init 38 = .ok (.dup, 1) := by decide +kernel
theorem dX1_init_39 : decode cX1_init 39 = .ok (.invokespecial 11, 3) := by decide +kernel
theorem dX1_init_42 : decode cX1_init 42 = .ok (.aastore, 1) := by decide +kernel
theorem dX1_init_43 : decode cX1_init 43 = .ok (.iinc 1 1, 3) := by decide +kernel
theorem dX1_init_46 : decode cX1_init 46 = .ok (.goto (-21), 3) := by decide +kernel
theorem dX1_init_49 : decode cX1_init 49 = .ok (.return_, 1) := by decide +kernel
set_option maxRecDepth 20000 in
theorem ggX1_setScan_X1_isStation : GoodIn wsX1_setScan wsX1_isStation := goodIn_r _ [6] (by decide +kernel) (by decide +kernel)
set_option maxRecDepth 20000 in
theorem gX1_setScan_X1_isStation : GoodIn wsX1_setScan (va_wsS RX1 20 yX1_isStation wsX1_isStation) := goodIn_app (goodIn_of _ (by decide +kernel)) ggX1_setScan_X1_isStation
set_option maxRecDepth 20000 in
theorem ggX1_setScan_X1_countInvalid : GoodIn wsX1_setScan wsX1_countInvalid := goodIn_r _ [10, 11, 47, 48, 49, 50, 51, 52] (by decide +kernel) (by decide +kernel)
set_option maxRecDepth 20000 in
theorem gX1_setScan_X1_countInvalid : GoodIn wsX1_setScan (wsV RX1 24 RX1 yX1_countInvalid wsX1_countInvalid) := goodIn_app (goodIn_of _ (by decide +kernel)) ggX1_setScan_X1_countInvalid
set_option maxRecDepth 20000 in
theorem ggX1_setScan_X1_saveState : GoodIn wsX1_setScan wsX1_saveState := goodIn_r _ [15, 16, 17, 1, 18, 19, 20, 21, 22, 23, 24, 25, 26, 27, 28, 29, 30, 31, 32, 33, 34, 35, 36, 37, 38, 39, 40, 41, 42, 43, 44, 45, 46, 47, 48, 49, 50, 51, 52, 53, 54, 55, 56, 57, 58, 59, 60, 61, 62, 63, 64, 65, 66, 67, 68] (by decide +kernel) (by decide +kernel)
set_option maxRecDepth 20000 in
theorem gX1_setScan_X1_saveState : GoodIn wsX1_setScan (wsV RX1 28 RX1 yX1_saveState wsX1_saveState) := goodIn_app (goodIn_of _ (by decide +kernel)) ggX1_setScan_X1_saveState
theorem dX1_setScan_0 : decode cX1_setScan 0 = .ok (.iload_n 1, 1) := by decide +kernel
theorem dX1_setScan_1 : decode cX1_setScan 1 = .ok (.invokestatic 20, 3) := by decide +kernel
theorem dX1_setScan_4 : decode cX1_setScan 4 = .ok (.ifCond .eq 15, 3) := by decide +kernel
theorem dX1_setScan_7 : decode cX1_setScan 7 = .ok (.iload_n 2, 1) := by decide +kernel
theorem dX1_setScan_8 : decode cX1_setScan 8 = .ok (.iconst 1, 1) := by decide +kernel
theorem dX1_setScan_9 : decode cX1_setScan 9 = .ok (.if_icmp .lt 10, 3) := by decide +kernel
theorem dX1_setScan_12 : decode cX1_setScan 12 = .ok (.iload_n 2, 1) := by decide +kernel
theorem dX1_setScan_13 : decode cX1_setScan 13 = .ok (.sipush 255, 3) := by decide +kernel
theorem dX1_setScan_16 : decode cX1_setScan 16 = .ok (.if_icmp .le 8, 3) := by decide +kernel
theorem dX1_setScan_19 : decode cX1_setScan 19 = .ok (.aload_n 0, 1) := by decide +kernel
theorem dX1_setScan_20 : decode cX1_setScan 20 = .ok (.invokevirtual 24, 3) := by decide +kernel
theorem dX1_setScan_23 : decode cX1_setScan 23 = .ok (.ireturn, 1) := by decide +kernel
theorem dX1_setScan_24 : decode cX1_setScan 24 = .ok (.aload_n 0, 1) := by decide +kernel
theorem dX1_setScan_25 : decode cX1_setScan 25 = .ok (.invokevirtual 28, 3) := by decide +kernel
theorem dX1_setScan_28 : decode cX1_setScan 28 = .ok (.aload_n 0, 1) := by decide +kernel
theorem dX1_setScan_29 : decode cX1_setScan 29 = .ok (.getfield 12, 3) := by decide +kernel
theorem dX1_setScan_32 : decode cX1_setScan 32 = .ok (.getfield 31, 3) := by decide +kernel
theorem dX1_setScan_35 : decode cX1_setScan 35 = .ok (.iload_n 1, 1) := by decide +kernel
theorem dX1_setScan_36 : decode cX1_setScan 36 = .ok (.iaload, 1) := by decide +kernel
theorem dX1_setScan_37 : decode cX1_setScan 37 = .ok (.istore_n 3, 1) := by decide +kernel
theorem dX1_setScan_38 : decode cX1_setScan 38 = .ok (.aload_n 0, 1) := by decide +kernel
theorem dX1_setScan_39 : decode cX1_setScan 39 = .ok (.getfield 12, 3) := by decide +kernel
theorem dX1_setScan_42 : decode cX1_setScan 42 = .ok (.getfield 31, 3) := by decide +kernel
theorem dX1_setScan_45 : decode cX1_setScan 45 = .ok (.iload_n 1, 1) := by decide +kernel
theorem dX1_setScan_46 : decode cX1_setScan 46 = .ok (.iload_n 2, 1) := by decide +kernel
theorem dX1_setScan_47 : decode cX1_setScan 47 = .ok (.iastore, 1) := by decide +kernel
theorem dX1_setScan_48 : decode cX1_setScan 48 = .ok (.iload_n 3, 1) := by decide +kernel
theorem dX1_setScan_49 : decode cX1_setScan 49 = .ok (.ireturn, 1) := by decide +kernel
set_option maxRecDepth 20000 in
theorem ggX1_setQuality_X1_isCell : GoodIn wsX1_setQuality wsX1_isCell := goodIn_r _ [6, 7, 8, 5, 9, 10, 11, 12, 13, 14, 15] (by decide +kernel) (by decide +kernel)
set_option maxRecDepth 20000 in
theorem gX1_setQuality_X1_isCell : GoodIn wsX1_setQuality (va_wsS RX1 35 yX1_isCell wsX1_isCell) := goodIn_app (goodIn_of _ (by decide +kernel)) ggX1_setQuality_X1_isCell
set_option maxRecDepth 20000 in
theorem ggX1_setQuality_X1_countInvalid : GoodIn wsX1_setQuality wsX1_countInvalid := goodIn_r _ [19, 20, 59, 60, 61, 62, 63, 64] (by decide +kernel) (by decide +kernel)
set_option maxRecDepth 20000 in
theorem gX1_setQuality_X1_countInvalid : GoodIn wsX1_setQuality (wsV RX1 24 RX1 yX1_countInvalid wsX1_countInvalid) := goodIn_app (goodIn_of _ (by decide +kernel)) ggX1_setQuality_X1_countInvalid
set_option maxRecDepth 20000 in
theorem ggX1_setQuality_X1_saveState : GoodIn wsX1_setQuality wsX1_saveState := goodIn_r _ [24, 25, 26, 1, 27, 28, 29, 30, 31, 32, 33, 34, 35, 36, 37, 38, 39, 40, 41, 42, 43, 44, 45, 46, 47, 48, 49, 50, 51, 52, 53, 54, 55, 59, 60, 61, 62, 63, 64, 65, 66, 67, 68, 69, 70, 71, 72, 73, 74, 75, 76, 77, 78, 79, 80] (by decide +kernel) (by decide +kernel)
set_option maxRecDepth 20000 in
theorem gX1_setQuality_X1_saveState : GoodIn wsX1_setQuality (wsV RX1 28 RX1 yX1_saveState wsX1_saveState) := goodIn_app (goodIn_of _ (by decide +kernel)) ggX1_setQuality_X1_saveState
set_option maxRecDepth 20000 in
theorem ggX1_setQuality_X1_cell : GoodIn wsX1_setQuality wsX1_cell := goodIn_r _ [58] (by decide +kernel) (by decide +kernel)
set_option maxRecDepth 20000 in
theorem gX1_setQuality_X1_cell : GoodIn wsX1_setQuality (va_wsS RX1 42 yX1_cell wsX1_cell) := goodIn_app (goodIn_of _ (by decide +kernel)) ggX1_setQuality_X1_cell
theorem dX1_setQuality_0 : decode cX1_setQuality 0 = .ok (.iload_n 1, 1) := by decide +kernel
theorem dX1_setQuality_1 : decode cX1_setQuality 1 = .ok (.iload_n 2, 1) := by decide +kernel
theorem dX1_setQuality_2 : decode cX1_setQuality 2 = .ok (.iload_n 3, 1) := by decide +kernel
theorem dX1_setQuality_3 : decode cX1_setQuality 3 = .ok (.invokestatic 35, 3) := by decide +kernel
theorem dX1_setQuality_6 : decode cX1_setQuality 6 = .ok (.ifCond .eq 15, 3) := by decide +kernel
theorem dX1_setQuality_9 : decode cX1_setQuality 9 = .ok (.iload 4, 2) := by decide +kernel
theorem dX1_setQuality_11 : decode cX1_setQuality 11 = .ok (.ifCond .lt 10, 3) := by decide +kernel
theorem dX1_setQuality_14 : decode cX1_setQuality 14 = .ok (.iload 4, 2) := by decide +kernel
theorem dX1_setQuality_16 : decode cX1_setQuality 16 = .ok (.bipush 30, 2) := by decide +kernel
theorem dX1_setQuality_18 : decode cX1_setQuality 18 = .ok (.if_icmp .le 8, 3) := by decide +kernel
theorem dX1_setQuality_21 : decode cX1_setQuality 21 = .ok (.aload_n 0, 1) := by decide +kernel
theorem dX1_setQuality_22 : decode cX1_setQuality 22 = .ok (.invokevirtual 24, 3) := by decide +kernel
theorem dX1_setQuality_25 : decode cX1_setQuality 25 = .ok (.ireturn, 1) := by decide +kernel
theorem dX1_setQuality_26 : decode cX1_setQuality 26 = .ok (.aload_n 0, 1) := by decide +kernel
theorem dX1_setQuality_27 : decode cX1_setQuality 27 = .ok (.invokevirtual 28, 3) := by decide +kernel
theorem dX1_setQuality_30 : decode cX1_setQuality 30 = .ok (.aload_n 0, 1) := by decide +kernel
theorem dX1_setQuality_31 : decode cX1_setQuality 31 = .ok (.getfield 12, 3) := by decide +kernel
theorem dX1_setQuality_34 : decode cX1_setQuality 34 = .ok (.getfield 39, 3) := by decide +kernel
theorem dX1_setQuality_37 : decode cX1_setQuality 37 = .ok (.iload_n 1, 1) := by decide +kernel
theorem dX1_setQuality_38 : decode cX1_setQuality 38 = .ok (.iload_n 2, 1) := by decide +kernel
theorem dX1_setQuality_39 : decode cX1_setQuality 39 = .ok (.iload_n 3, 1) := by decide +kernel
theorem dX1_setQuality_40 : decode cX1_setQuality 40 = .ok (.invokestatic 42, 3) := by decide +kernel
theorem dX1_setQuality_43 : decode cX1_setQuality 43 = .ok (.iaload, 1) := by decide +kernel
theorem dX1_setQuality_44 : decode cX1_setQuality 44 = .ok (.istore 5, 2) := by decide +kernel
theorem dX1_setQuality_46 : decode cX1_setQuality 46 = .ok (.aload_n 0, 1) := by decide +kernel
theorem dX1_setQuality_47 : decode cX1_setQuality 47 = .ok (.getfield 12, 3) := by decide +kernel
theorem dX1_setQuality_50 : decode cX1_setQuality 50 = .ok (.getfield 39, 3) := by decide +kernel
theorem dX1_setQuality_53 : decode cX1_setQuality 53 = .ok (.iload_n 1, 1) := by decide +kernel
theorem dX1_setQuality_54 : decode cX1_setQuality 54 = .ok (.iload_n 2, 1) := by decide +kernel
theorem dX1_setQuality_55 : decode cX1_setQuality 55 = .ok (.iload_n 3, 1) := by decide +kernel
theorem dX1_setQuality_56 : decode cX1_setQuality 56 = .ok (.invokestatic 42, 3) := by decide +kernel
theorem dX1_setQuality_59 : decode cX1_setQuality 59 = .ok (.iload 4, 2) := by decide +kernel
theorem dX1_setQuality_61 : decode cX1_setQuality 61 = .ok (.iastore, 1) := by decide +kernel
theorem dX1_setQuality_62 : decode cX1_setQuality 62 = .ok (.aload_n 0, 1) := by decide +kernel
theorem dX1_setQuality_63 : decode cX1_setQuality 63 = .ok (.getfield 12, 3) := by decide +kernel
theorem dX1_setQuality_66 : decode cX1_setQuality 66 = .ok (.getfield 39, 3) := by decide +kernel
theorem dX1_setQuality_69 : decode cX1_setQuality 69 = .ok (.iload_n 2, 1) := by decide +kernel
theorem dX1_setQuality_70 : decode cX1_setQuality 70 = .ok (.iload_n 1, 1) := by decide +kernel
theorem dX1_setQuality_71 : decode cX1_setQuality 71 = .ok (.iload_n 3, 1) := by decide +kernel
theorem dX1_setQuality_72 : decode cX1_setQuality 72 = .ok (.invokestatic 42, 3) := by decide +kernel
theorem dX1_setQuality_75 : decode cX1_setQuality 75 = .ok (.iload 4, 2) := by decide +kernel
theorem dX1_setQuality_77 : decode cX1_setQuality 77 = .ok (.iastore, 1) := by decide +kernel
theorem dX1_setQuality_78 : decode cX1_setQuality 78 = .ok (.iload 5, 2) := by decide +kernel
theorem dX1_setQuality_80 : decode cX1_setQuality 80 = .ok (.ireturn, 1) := by decide +kernel
set_option maxRecDepth 20000 in
theorem ggX1_setAgeing_X1_countInvalid : GoodIn wsX1_setAgeing wsX1_countInvalid := goodIn_r _ [7, 8, 44, 45, 46, 47, 48, 49] (by decide +kernel) (by decide +kernel)
set_option maxRecDepth 20000 in
theorem gX1_setAgeing_X1_countInvalid : GoodIn wsX1_setAgeing (wsV RX1 24 RX1 yX1_countInvalid wsX1_countInvalid) := goodIn_app (goodIn_of _ (by decide +kernel)) ggX1_setAgeing_X1_countInvalid
set_option maxRecDepth 20000 in
theorem ggX1_setAgeing_X1_saveState : GoodIn wsX1_setAgeing wsX1_saveState := goodIn_r _ [12, 13, 14, 1, 15, 16, 17, 18, 19, 20, 21, 22, 23, 24, 25, 26, 27, 28, 29, 30, 31, 32, 33, 34, 35, 36, 37, 38, 39, 40, 41, 42, 43, 44, 45, 46, 47, 48, 49, 50, 51, 52, 53, 54, 55, 56, 57, 58, 59, 60, 61, 62, 63, 64, 65] (by decide +kernel) (by decide +kernel)
set_option maxRecDepth 20000 in
theorem gX1_setAgeing_X1_saveState : GoodIn wsX1_setAgeing (wsV RX1 28 RX1 yX1_saveState wsX1_saveState) := goodIn_app (goodIn_of _ (by decide +kernel)) ggX1_setAgeing_X1_saveState
theorem dX1_setAgeing_0 : decode cX1_setAgeing 0 = .ok (.iload_n 1, 1) := by decide +kernel
theorem dX1_setAgeing_1 : decode cX1_setAgeing 1 = .ok (.iconst 1, 1) := by decide +kernel
theorem dX1_setAgeing_2 : decode cX1_setAgeing 2 = .ok (.if_icmp .lt 9, 3) := by decide +kernel
theorem dX1_setAgeing_5 : decode cX1_setAgeing 5 = .ok (.iload_n 1, 1) := by decide +kernel
theorem dX1_setAgeing_6 : decode cX1_setAgeing 6 = .ok (.bipush 99, 2) := by decide +kernel
theorem dX1_setAgeing_8 : decode cX1_setAgeing 8 = .ok (.if_icmp .le 8, 3) := by decide +kernel
theorem dX1_setAgeing_11 : decode cX1_setAgeing 11 = .ok (.aload_n 0, 1) := by decide +kernel
theorem dX1_setAgeing_12 : decode cX1_setAgeing 12 = .ok (.invokevirtual 24, 3) := by decide +kernel
theorem dX1_setAgeing_15 : decode cX1_setAgeing 15 = .ok (.ireturn, 1) := by decide +kernel
theorem dX1_setAgeing_16 : decode cX1_setAgeing 16 = .ok (.aload_n 0, 1) := by decide +kernel
theorem dX1_setAgeing_17 : decode cX1_setAgeing 17 = .ok (.invokevirtual 28, 3) := by decide +kernel
theorem dX1_setAgeing_20 : decode cX1_setAgeing 20 = .ok (.aload_n 0, 1) := by decide +kernel
theorem dX1_setAgeing_21 : decode cX1_setAgeing 21 = .ok (.getfield 12, 3) := by decide +kernel
theorem dX1_setAgeing_24 : decode cX1_setAgeing 24 = .ok (.getfield 46, 3) := by decide +kernel
theorem dX1_setAgeing_27 : decode cX1_setAgeing 27 = .ok (.istore_n 2, 1) := by decide +kernel
theorem dX1_setAgeing_28 : decode cX1_setAgeing 28 = .ok (.aload_n 0, 1) := by decide +kernel
theorem dX1_setAgeing_29 : decode cX1_setAgeing 29 = .ok (.getfield 12, 3) := by decide +kernel
theorem dX1_setAgeing_32 : decode cX1_setAgeing 32 = .ok (.iload_n 1, 1) := by decide +kernel
theorem dX1_setAgeing_33 : decode cX1_setAgeing 33 = .ok (.putfield 46, 3) := by decide +kernel
theorem dX1_setAgeing_36 : decode cX1_setAgeing 36 = .ok (.iload_n 2, 1) := by decide +kernel
theorem dX1_setAgeing_37 : decode cX1_setAgeing 37 = .ok (.ireturn, 1) := by decide +kernel
set_option maxRecDepth 20000 in
theorem ggX1_setNoise_X1_countInvalid : GoodIn wsX1_setNoise wsX1_countInvalid := goodIn_r _ [8, 9, 45, 46, 47, 48, 49, 50] (by decide +kernel) (by decide +kernel)
set_option maxRecDepth 20000 in
theorem gX1_setNoise_X1_countInvalid : GoodIn wsX1_setNoise (wsV RX1 24 RX1 yX1_countInvalid wsX1_countInvalid) := goodIn_app (goodIn_of _ (by decide +kernel)) ggX1_setNoise_X1_countInvalid
set_option maxRecDepth 20000 in
theorem ggX1_setNoise_X1_saveState : GoodIn wsX1_setNoise wsX1_saveState := goodIn_r _ [13, 14, 15, 1, 16, 17, 18, 19, 20, 21, 22, 23, 24, 25, 26, 27, 28, 29, 30, 31, 32, 33, 34, 35, 36, 37, 38, 39, 40, 41, 42, 43, 44, 45, 46, 47, 48, 49, 50, 51, 52, 53, 54, 55, 56, 57, 58, 59, 60, 61, 62, 63, 64, 65, 66] (by decide +kernel) (by decide +kernel)
set_option maxRecDepth 20000 in
theorem gX1_setNoise_X1_saveState : GoodIn wsX1_setNoise (wsV RX1 28 RX1 yX1_saveState wsX1_saveState) := goodIn_app (goodIn_of _ (by decide +kernel)) ggX1_setNoise_X1_saveState
theorem dX1_setNoise_0 : decode cX1_setNoise 0 = .ok (.iload_n 1, 1) := by decide +kernel
theorem dX1_setNoise_1 : decode cX1_setNoise 1 = .ok (.ifCond .ge 8, 3) := by decide +kernel
theorem dX1_setNoise_4 : decode cX1_setNoise 4 = .ok (.aload_n 0, 1) := by decide +kernel
theorem dX1_setNoise_5 : decode cX1_setNoise 5 = .ok (.invokevirtual 24, 3) := by decide +kernel
theorem dX1_setNoise_8 : decode cX1_setNoise 8 = .ok (.ireturn, 1) := by decide +kernel
theorem dX1_setNoise_9 : decode cX1_setNoise 9 = .ok (.aload_n 0, 1) := by decide +kernel
theorem dX1_setNoise_10 : decode cX1_setNoise 10 = .ok (.invokevirtual 28, 3) := by decide +kernel
theorem dX1_setNoise_13 : decode cX1_setNoise 13 = .ok (.aload_n 0, 1) := by decide +kernel
theorem dX1_setNoise_14 : decode cX1_setNoise 14 = .ok (.getfield 12, 3) := by decide +kernel
theorem dX1_setNoise_17 : decode cX1_setNoise 17 = .ok (.iload_n 1, 1) := by decide +kernel
theorem dX1_setNoise_18 : decode cX1_setNoise 18 = .ok (.putfield 50, 3) := by decide +kernel
theorem dX1_setNoise_21 : decode cX1_setNoise 21 = .ok (.aload_n 0, 1) := by decide +kernel
theorem dX1_setNoise_22 : decode cX1_setNoise 22 = .ok (.getfield 12, 3) := by decide +kernel
theorem dX1_setNoise_25 : decode cX1_setNoise 25 = .ok (.getfield 53, 3) := by decide +kernel
theorem dX1_setNoise_28 : decode cX1_setNoise 28 = .ok (.ireturn, 1) := by decide +kernel
set_option maxRecDepth 20000 in
theorem ggX1_pass_X1_countInvalid : GoodIn wsX1_pass wsX1_countInvalid := goodIn_r _ [7, 8, 44, 45, 46, 47, 48, 49] (by decide +kernel) (by decide +kernel)
set_option maxRecDepth 20000 in
theorem gX1_pass_X1_countInvalid : GoodIn wsX1_pass (wsV RX1 24 RX1 yX1_countInvalid wsX1_countInvalid) := goodIn_app (goodIn_of _ (by decide +kernel)) ggX1_pass_X1_countInvalid
set_option maxRecDepth 20000 in
theorem ggX1_pass_X1_saveState : GoodIn wsX1_pass wsX1_saveState := goodIn_r _ [12, 13, 14, 1, 15, 16, 17, 18, 19, 20, 21, 22, 23, 24, 25, 26, 27, 28, 29, 30, 31, 32, 33, 34, 35, 36, 37, 38, 39, 40, 41, 42, 43, 44, 45, 46, 47, 48, 49, 50, 51, 52, 53, 54, 55, 56, 57, 58, 59, 60, 61, 62, 63, 64, 65] (by decide +kernel) (by decide +kernel)
set_option maxRecDepth 20000 in
theorem gX1_pass_X1_saveState : GoodIn wsX1_pass (wsV RX1 28 RX1 yX1_saveState wsX1_saveState) := goodIn_app (goodIn_of _ (by decide +kernel)) ggX1_pass_X1_saveState
theorem dX1_pass_0 : decode cX1_pass 0 = .ok (.iload_n 1, 1) := by decide +kernel
theorem dX1_pass_1 : decode cX1_pass 1 = .ok (.iconst 1, 1) := by decide +kernel
theorem dX1_pass_2 : decode cX1_pass 2 = .ok (.if_icmp .lt 10, 3) := by decide +kernel
theorem dX1_pass_5 : decode cX1_pass 5 = .ok (.iload_n 1, 1) := by decide +kernel
theorem dX1_pass_6 : decode cX1_pass 6 = .ok (.sipush 1000, 3) := by decide +kernel
theorem dX1_pass_9 : decode cX1_pass 9 = .ok (.if_icmp .le 8, 3) := by decide +kernel
theorem dX1_pass_12 : decode cX1_pass 12 = .ok (.aload_n 0, 1) := by decide +kernel
theorem dX1_pass_13 : decode cX1_pass 13 = .ok (.invokevirtual 24, 3) := by decide +kernel
theorem dX1_pass_16 : decode cX1_pass 16 = .ok (.ireturn, 1) := by decide +kernel
theorem dX1_pass_17 : decode cX1_pass 17 = .ok (.aload_n 0, 1) := by decide +kernel
theorem dX1_pass_18 : decode cX1_pass 18 = .ok (.invokevirtual 28, 3) := by decide +kernel
theorem dX1_pass_21 : decode cX1_pass 21 = .ok (.aload_n 0, 1) := by decide +kernel
theorem dX1_pass_22 : decode cX1_pass 22 = .ok (.getfield 12, 3) := by decide +kernel
theorem dX1_pass_25 : decode cX1_pass 25 = .ok (.dup, 1) := by decide +kernel
theorem dX1_pass_26 : decode cX1_pass 26 = .ok (.getfield 53, 3) := by decide +kernel
theorem dX1_pass_29 : decode cX1_pass 29 = .ok (.iload_n 1, 1) := by decide +kernel
theorem dX1_pass_30 : decode cX1_pass 30 = .ok (.iadd, 1) := by decide +kernel
theorem dX1_pass_31 : decode cX1_pass 31 = .ok (.putfield 53, 3) := by decide +kernel
theorem dX1_pass_34 : decode cX1_pass 34 = .ok (.aload_n 0, 1) := by decide +kernel
theorem dX1_pass_35 : decode cX1_pass 35 = .ok (.getfield 12, 3) := by decide +kernel
theorem dX1_pass_38 : decode cX1_pass 38 = .ok (.getfield 53, 3) := by decide +kernel
theorem dX1_pass_41 : decode cX1_pass 41 = .ok (.ireturn, 1) := by decide +kernel
set_option maxRecDepth 20000 in
theorem ggX1_sound_X1_isStation : GoodIn wsX1_sound wsX1_isStation := goodIn_r _ [5] (by decide +kernel) (by decide +kernel)
set_option maxRecDepth 20000 in
theorem gX1_sound_X1_isStation : GoodIn wsX1_sound (va_wsS RX1 20 yX1_isStation wsX1_isStation) := goodIn_app (goodIn_of _ (by decide +kernel)) ggX1_sound_X1_isStation
set_option maxRecDepth 20000 in
theorem ggX1_sound_X1_isChannel : GoodIn wsX1_sound wsX1_isChannel := goodIn_r _ [8] (by decide +kernel) (by decide +kernel)
set_option maxRecDepth 20000 in
theorem gX1_sound_X1_isChannel : GoodIn wsX1_sound (va_wsS RX1 56 yX1_isChannel wsX1_isChannel) := goodIn_app (goodIn_of _ (by decide +kernel)) ggX1_sound_X1_isChannel
set_option maxRecDepth 20000 in
theorem ggX1_sound_X1_countInvalid : GoodIn wsX1_sound wsX1_countInvalid := goodIn_r _ [12, 13, 102, 103, 104, 105, 106, 107] (by decide +kernel) (by decide +kernel)
set_option maxRecDepth 20000 in
theorem gX1_sound_X1_countInvalid : GoodIn wsX1_sound (wsV RX1 24 RX1 yX1_countInvalid wsX1_countInvalid) := goodIn_app (goodIn_of _ (by decide +kernel)) ggX1_sound_X1_countInvalid
set_option maxRecDepth 20000 in
theorem ggX1_sound_X0_isLinked : GoodIn wsX1_sound wsX0_isLinked := goodIn_r _ [18, 19, 108, 109, 110, 111, 112, 113, 114, 115, 116, 117, 118, 119, 120, 121, 122, 123] (by decide +kernel) (by decide +kernel)
set_option maxRecDepth 20000 in
theorem gX1_sound_X0_isLinked : GoodIn wsX1_sound (wsV RX1 59 RX0 yX0_isLinked wsX0_isLinked) := goodIn_app (goodIn_of _ (by decide +kernel)) ggX1_sound_X0_isLinked
set_option maxRecDepth 20000 in
theorem ggX1_sound_X1_countRejected : GoodIn wsX1_sound wsX1_countRejected := goodIn_r _ [23, 24, 102, 103, 104, 105, 106, 107] (by decide +kernel) (by decide +kernel)
set_option maxRecDepth 20000 in
theorem gX1_sound_X1_countRejected : GoodIn wsX1_sound (wsV RX1 62 RX1 yX1_countRejected wsX1_countRejected) := goodIn_app (goodIn_of _ (by decide +kernel)) ggX1_sound_X1_countRejected
set_option maxRecDepth 20000 in
theorem ggX1_sound_X1_saveState : GoodIn wsX1_sound wsX1_saveState := goodIn_r _ [28, 29, 30, 1, 31, 32, 33, 34, 35, 36, 37, 38, 17, 39, 40, 41, 42, 43, 44, 45, 46, 47, 48, 49, 50, 51, 52, 53, 19, 54, 55, 56, 57, 102, 103, 104, 105, 106, 107, 108, 109, 110, 111, 112, 113, 114, 115, 116, 117, 118, 119, 120, 121, 122, 123] (by decide +kernel) (by decide +kernel)
set_option maxRecDepth 20000 in
theorem gX1_sound_X1_saveState : GoodIn wsX1_sound (wsV RX1 28 RX1 yX1_saveState wsX1_saveState) := goodIn_app (goodIn_of _ (by decide +kernel)) ggX1_sound_X1_saveState
set_option maxRecDepth 20000 in
theorem ggX1_sound_X0_emitSounding : GoodIn wsX1_sound wsX0_emitSounding := goodIn_r _ [61, 40, 62, 63, 64, 17, 65, 49, 66, 67, 34, 68, 69, 4, 70, 71, 72, 73, 74, 75, 76, 77, 78, 79, 80, 81, 82, 15, 16, 18, 19, 83, 84, 85, 86, 87, 55, 48, 47, 43, 44, 56, 57, 88, 89, 90, 91, 92, 93, 94, 95, 96, 97, 42, 98, 99, 100, 101, 108, 109, 110, 111, 112, 113, 114, 115, 116, 117, 118, 119, 120, 121, 122, 123] (by decide +kernel) (by decide +kernel)
set_option maxRecDepth 20000 in
theorem gX1_sound_X0_emitSounding : GoodIn wsX1_sound (wsV RX1 65 RX0 yX0_emitSounding wsX0_emitSounding) := goodIn_app (goodIn_of _ (by decide +kernel)) ggX1_sound_X0_emitSounding
theorem dX1_sound_0 : decode cX1_sound 0 = .ok (.iload_n 1, 1) := by decide +kernel
theorem dX1_sound_1 : decode cX1_sound 1 = .ok (.invokestatic 20, 3) := by decide +kernel
theorem dX1_sound_4 : decode cX1_sound 4 = .ok (.ifCond .eq 10, 3) := by decide +kernel
theorem dX1_sound_7 : decode cX1_sound 7 = .ok (.iload_n 2, 1) := by decide +kernel
theorem dX1_sound_8 : decode cX1_sound 8 = .ok (.invokestatic 56, 3) := by decide +kernel
theorem dX1_sound_11 : decode cX1_sound 11 = .ok (.ifCond .ne 8, 3) := by decide +kernel
theorem dX1_sound_14 : decode cX1_sound 14 = .ok (.aload_n 0, 1) := by decide +kernel
theorem dX1_sound_15 : decode cX1_sound 15 = .ok (.invokevirtual 24, 3) := by decide +kernel
theorem dX1_sound_18 : decode cX1_sound 18 = .ok (.ireturn, 1) := by decide +kernel
theorem dX1_sound_19 : decode cX1_sound 19 = .ok (.aload_n 0, 1) := by decide +kernel
theorem dX1_sound_20 : decode cX1_sound 20 = .ok (.getfield 12, 3) := by decide +kernel
theorem dX1_sound_23 : decode cX1_sound 23 = .ok (.iload_n 1, 1) := by decide +kernel
theorem dX1_sound_24 : decode cX1_sound 24 = .ok (.invokevirtual 59, 3) := by decide +kernel
theorem dX1_sound_27 : decode cX1_sound 27 = .ok (.ifCond .eq 8, 3) := by decide +kernel
theorem dX1_sound_30 : decode cX1_sound 30 = .ok (.aload_n 0, 1) := by decide +kernel
theorem dX1_sound_31 : decode cX1_sound 31 = .ok (.invokevirtual 62, 3) := by decide +kernel
theorem dX1_sound_34 : decode cX1_sound 34 = .ok (.ireturn, 1) := by decide +kernel
theorem dX1_sound_35 : decode cX1_sound 35 = .ok (.aload_n 0, 1) := by decide +kernel
theorem dX1_sound_36 : decode cX1_sound 36 = .ok (.invokevirtual 28, 3) := by decide +kernel
theorem dX1_sound_39 : decode cX1_sound 39 = .ok (.aload_n 0, 1) := by decide +kernel
theorem dX1_sound_40 : decode cX1_sound 40 = .ok (.getfield 12, 3) := by decide +kernel
theorem dX1_sound_43 : decode cX1_sound 43 = .ok (.iload_n 1, 1) := by decide +kernel
theorem dX1_sound_44 : decode cX1_sound 44 = .ok (.iload_n 2, 1) := by decide +kernel
theorem dX1_sound_45 : decode cX1_sound 45 = .ok (.invokevirtual 65, 3) := by decide +kernel
theorem dX1_sound_48 : decode cX1_sound 48 = .ok (.ireturn, 1) := by decide +kernel
set_option maxRecDepth 20000 in
theorem ggX1_call_X1_isPair : GoodIn wsX1_call wsX1_isPair := goodIn_r _ [5, 6, 7, 4, 8] (by decide +kernel) (by decide +kernel)
set_option maxRecDepth 20000 in
theorem gX1_call_X1_isPair : GoodIn wsX1_call (va_wsS RX1 69 yX1_isPair wsX1_isPair) := goodIn_app (goodIn_of _ (by decide +kernel)) ggX1_call_X1_isPair
set_option maxRecDepth 20000 in
theorem ggX1_call_X1_countInvalid : GoodIn wsX1_call wsX1_countInvalid := goodIn_r _ [12, 13, 124, 125, 126, 127, 128, 129] (by decide +kernel) (by decide +kernel)
set_option maxRecDepth 20000 in
theorem gX1_call_X1_countInvalid : GoodIn wsX1_call (wsV RX1 24 RX1 yX1_countInvalid wsX1_countInvalid) := goodIn_app (goodIn_of _ (by decide +kernel)) ggX1_call_X1_countInvalid
set_option maxRecDepth 20000 in
theorem ggX1_call_X0_isLinked : GoodIn wsX1_call wsX0_isLinked := goodIn_r _ [18, 19, 130, 131, 132, 133, 134, 135, 136, 137, 138, 139, 140, 141, 142, 143, 144, 145] (by decide +kernel) (by decide +kernel)
set_option maxRecDepth 20000 in
theorem gX1_call_X0_isLinked : GoodIn wsX1_call (wsV RX1 59 RX0 yX0_isLinked wsX0_isLinked) := goodIn_app (goodIn_of _ (by decide +kernel)) ggX1_call_X0_isLinked
set_option maxRecDepth 20000 in
theorem ggX1_call_X1_countRejected : GoodIn wsX1_call wsX1_countRejected := goodIn_r _ [23, 24, 124, 125, 126, 127, 128, 129] (by decide +kernel) (by decide +kernel)
set_option maxRecDepth 20000 in
theorem gX1_call_X1_countRejected : GoodIn wsX1_call (wsV RX1 62 RX1 yX1_countRejected wsX1_countRejected) := goodIn_app (goodIn_of _ (by decide +kernel)) ggX1_call_X1_countRejected
set_option maxRecDepth 20000 in
theorem ggX1_call_X1_saveState : GoodIn wsX1_call wsX1_saveState := goodIn_r _ [28, 29, 30, 1, 31, 32, 33, 34, 35, 36, 37, 38, 17, 39, 40, 41, 42, 43, 44, 45, 46, 47, 48, 49, 50, 51, 52, 53, 19, 54, 55, 56, 57, 124, 125, 126, 127, 128, 129, 130, 131, 132, 133, 134, 135, 136, 137, 138, 139, 140, 141, 142, 143, 144, 145] (by decide +kernel) (by decide +kernel)
set_option maxRecDepth 20000 in
theorem gX1_call_X1_saveState : GoodIn wsX1_call (wsV RX1 28 RX1 yX1_saveState wsX1_saveState) := goodIn_app (goodIn_of _ (by decide +kernel)) ggX1_call_X1_saveState
set_option maxRecDepth 20000 in
theorem ggX1_call_X0_callOne : GoodIn wsX1_call wsX0_callOne := goodIn_r _ [61, 45, 49, 46, 62, 63, 64, 17, 65, 66, 67, 68, 69, 70, 71, 33, 34, 35, 72, 4, 73, 74, 75, 76, 77, 56, 40, 57, 41, 78, 79, 80, 81, 82, 83, 84, 85, 86, 87, 88, 89, 90, 91, 92, 93, 94, 95, 96, 97, 98, 99, 100, 101, 102, 15, 16, 18, 19, 103, 104, 105, 106, 107, 55, 48, 47, 43, 44, 108, 109, 110, 111, 112, 113, 114, 115, 42, 116, 117, 118, 119, 120, 121, 122, 123, 54, 130, 131, 132, 133, 134, 135, 136, 137, 138, 139, 140, 141, 142, 143, 144, 145] (by decide +kernel) (by decide +kernel)
set_option maxRecDepth 20000 in
theorem gX1_call_X0_callOne : GoodIn wsX1_call (wsV RX1 73 RX0 yX0_callOne wsX0_callOne) := goodIn_app (goodIn_of _ (by decide +kernel)) ggX1_call_X0_callOne
theorem dX1_call_0 : decode cX1_call 0 = .ok (.iload_n 1, 1) := by decide +kernel
theorem dX1_call_1 : decode cX1_call 1 = .ok (.iload_n 2, 1) := by decide +kernel
theorem dX1_call_2 : decode cX1_call 2 = .ok (.invokestatic 69, 3) := by decide +kernel
theorem dX1_call_5 : decode cX1_call 5 = .ok (.ifCond .ne 8, 3) := by decide +kernel
theorem dX1_call_8 : decode cX1_call 8 = .ok (.aload_n 0, 1) := by decide +kernel
theorem dX1_call_9 : decode cX1_call 9 = .ok (.invokevirtual 24, 3) := by decide +kernel
theorem dX1_call_12 : decode cX1_call 12 = .ok (.ireturn, 1) := by decide +kernel
theorem dX1_call_13 : decode cX1_call 13 = .ok (.aload_n 0, 1) := by decide +kernel
theorem dX1_call_14 : decode cX1_call 14 = .ok (.getfield 12, 3) := by decide +kernel
theorem dX1_call_17 : decode cX1_call 17 = .ok (.iload_n 1, 1) := by decide +kernel
theorem dX1_call_18 : decode cX1_call 18 = .ok (.invokevirtual 59, 3) := by decide +kernel
theorem dX1_call_21 : decode cX1_call 21 = .ok (.ifCond .ne 14, 3) := by decide +kernel
theorem dX1_call_24 : decode cX1_call 24 = .ok (.aload_n 0, 1) := by decide +kernel
theorem dX1_call_25 : decode cX1_call 25 = .ok (.getfield 12, 3) := by decide +kernel
theorem dX1_call_28 : decode cX1_call 28 = .ok (.iload_n 2, 1) := by decide +kernel
theorem dX1_call_29 : decode cX1_call 29 = .ok (.invokevirtual 59, 3) := by decide +kernel
theorem dX1_call_32 : decode cX1_call 32 = .ok (.ifCond .eq 8, 3) := by decide +kernel
theorem dX1_call_35 : decode cX1_call 35 = .ok (.aload_n 0, 1) := by decide +kernel
theorem dX1_call_36 : decode cX1_call 36 = .ok (.invokevirtual 62, 3) := by decide +kernel
theorem dX1_call_39 : decode cX1_call 39 = .ok (.ireturn, 1) := by decide +kernel
theorem dX1_call_40 : decode cX1_call 40 = .ok (.aload_n 0, 1) := by decide +kernel
theorem dX1_call_41 : decode cX1_call 41 = .ok (.invokevirtual 28, 3) := by decide +kernel
theorem dX1_call_44 : decode cX1_call 44 = .ok (.aload_n 0, 1) := by decide +kernel
theorem dX1_call_45 : decode cX1_call 45 = .ok (.getfield 12, 3) := by decide +kernel
theorem dX1_call_48 : decode cX1_call 48 = .ok (.iload_n 1, 1) := by decide +kernel
theorem dX1_call_49 : decode cX1_call 49 = .ok (.iload_n 2, 1) := by decide +kernel
theorem dX1_call_50 : decode cX1_call 50 = .ok (.invokevirtual 73, 3) := by decide +kernel
theorem dX1_call_53 : decode cX1_call 53 = .ok (.ireturn, 1) := by decide +kernel
set_option maxRecDepth 20000 in
theorem ggX1_netCall_X1_isNet : GoodIn wsX1_netCall wsX1_isNet := goodIn_r _ [5, 6, 7, 4, 8, 9, 10, 11] (by decide +kernel) (by decide +kernel)
set_option maxRecDepth 20000 in
theorem gX1_netCall_X1_isNet : GoodIn wsX1_netCall (va_wsS RX1 76 yX1_isNet wsX1_isNet) := goodIn_app (goodIn_of _ (by decide +kernel)) ggX1_netCall_X1_isNet
set_option maxRecDepth 20000 in
theorem ggX1_netCall_X1_countInvalid : GoodIn wsX1_netCall wsX1_countInvalid := goodIn_r _ [15, 16, 133, 134, 135, 136, 137, 138] (by decide +kernel) (by decide +kernel)
set_option maxRecDepth 20000 in
theorem gX1_netCall_X1_countInvalid : GoodIn wsX1_netCall (wsV RX1 24 RX1 yX1_countInvalid wsX1_countInvalid) := goodIn_app (goodIn_of _ (by decide +kernel)) ggX1_netCall_X1_countInvalid
set_option maxRecDepth 20000 in
theorem ggX1_netCall_X0_isLinked : GoodIn wsX1_netCall wsX0_isLinked := goodIn_r _ [21, 22, 139, 140, 141, 142, 143, 144, 145, 146, 147, 148, 149, 150, 151, 152, 153, 154] (by decide +kernel) (by decide +kernel)
set_option maxRecDepth 20000 in
theorem gX1_netCall_X0_isLinked : GoodIn wsX1_netCall (wsV RX1 59 RX0 yX0_isLinked wsX0_isLinked) := goodIn_app (goodIn_of _ (by decide +kernel)) ggX1_netCall_X0_isLinked
set_option maxRecDepth 20000 in
theorem ggX1_netCall_X1_countRejected : GoodIn wsX1_netCall wsX1_countRejected := goodIn_r _ [26, 27, 133, 134, 135, 136, 137, 138] (by decide +kernel) (by decide +kernel)
set_option maxRecDepth 20000 in
theorem gX1_netCall_X1_countRejected : GoodIn wsX1_netCall (wsV RX1 62 RX1 yX1_countRejected wsX1_countRejected) := goodIn_app (goodIn_of _ (by decide +kernel)) ggX1_netCall_X1_countRejected
set_option maxRecDepth 20000 in
theorem ggX1_netCall_X1_saveState : GoodIn wsX1_netCall wsX1_saveState := goodIn_r _ [31, 32, 33, 1, 34, 35, 36, 37, 38, 39, 40, 41, 20, 42, 43, 44, 45, 46, 47, 48, 49, 50, 51, 52, 53, 54, 55, 56, 22, 57, 58, 59, 60, 133, 134, 135, 136, 137, 138, 139, 140, 141, 142, 143, 144, 145, 146, 147, 148, 149, 150, 151, 152, 153, 154] (by decide +kernel) (by decide +kernel)
set_option maxRecDepth 20000 in
theorem gX1_netCall_X1_saveState : GoodIn wsX1_netCall (wsV RX1 28 RX1 yX1_saveState wsX1_saveState) := goodIn_app (goodIn_of _ (by decide +kernel)) ggX1_netCall_X1_saveState
set_option maxRecDepth 20000 in
theorem ggX1_netCall_X0_callMany : GoodIn wsX1_netCall wsX0_callMany := goodIn_r _ [64, 48, 49, 43, 65, 66, 67, 20, 68, 52, 69, 70, 71, 72, 73, 74, 75, 76, 77, 78, 36, 37, 38, 10, 4, 11, 79, 80, 81, 82, 59, 60, 44, 83, 84, 85, 86, 87, 88, 89, 90, 91, 92, 93, 94, 95, 96, 97, 98, 99, 100, 101, 102, 103, 104, 105, 106, 107, 108, 109, 110, 111, 18, 19, 21, 22, 112, 113, 114, 115, 116, 58, 51, 50, 46, 47, 117, 118, 119, 120, 121, 122, 123, 124, 45, 125, 126, 127, 128, 129, 130, 131, 132, 57, 139, 140, 141, 142, 143, 144, 145, 146, 147, 148, 149, 150, 151, 152, 153, 154] (by decide +kernel) (by decide +kernel)
set_option maxRecDepth 20000 in
theorem gX1_netCall_X0_callMany : GoodIn wsX1_netCall (wsV RX1 79 RX0 yX0_callMany wsX0_callMany) := goodIn_app (goodIn_of _ (by decide +kernel)) ggX1_netCall_X0_callMany
theorem dX1_netCall_0 : decode cX1_netCall 0 = .ok (.iload_n 1, 1) := by decide +kernel
theorem dX1_netCall_1 : decode cX1_netCall 1 = .ok (.iload_n 2, 1) := by decide +kernel
theorem dX1_netCall_2 : decode cX1_netCall 2 = .ok (.invokestatic 76, 3) := by decide +kernel
theorem dX1_netCall_5 : decode cX1_netCall 5 = .ok (.ifCond .ne 8, 3) := by decide +kernel
theorem dX1_netCall_8 : decode cX1_netCall 8 = .ok (.aload_n 0, 1) := by decide +kernel
theorem dX1_netCall_9 : decode cX1_netCall 9 = .ok (.invokevirtual 24, 3) := by decide +kernel
theorem dX1_netCall_12 : decode cX1_netCall 12 = .ok (.ireturn, 1) := by decide +kernel
theorem dX1_netCall_13 : decode cX1_netCall 13 = .ok (.aload_n 0, 1) := by decide +kernel
theorem dX1_netCall_14 : decode cX1_netCall 14 = .ok (.getfield 12, 3) := by decide +kernel
theorem dX1_netCall_17 : decode cX1_netCall 17 = .ok (.iload_n 1, 1) := by decide +kernel
theorem dX1_netCall_18 : decode cX1_netCall 18 = .ok (.invokevirtual 59, 3) := by decide +kernel
theorem dX1_netCall_21 : decode cX1_netCall 21 = .ok (.ifCond .eq 8, 3) := by decide +kernel
theorem dX1_netCall_24 : decode cX1_netCall 24 = .ok (.aload_n 0, 1) := by decide +kernel
theorem dX1_netCall_25 : decode cX1_netCall 25 = .ok (.invokevirtual 62, 3) := by decide +kernel
theorem dX1_netCall_28 : decode cX1_netCall 28 = .ok (.ireturn, 1) := by decide +kernel
theorem dX1_netCall_29 : decode cX1_netCall 29 = .ok (.aload_n 0, 1) := by decide +kernel
theorem dX1_netCall_30 : decode cX1_netCall 30 = .ok (.invokevirtual 28, 3) := by decide +kernel
theorem dX1_netCall_33 : decode cX1_netCall 33 = .ok (.aload_n 0, 1) := by decide +kernel
theorem dX1_netCall_34 : decode cX1_netCall 34 = .ok (.getfield 12, 3) := by decide +kernel
theorem dX1_netCall_37 : decode cX1_netCall 37 = .ok (.iload_n 1, 1) := by decide +kernel
theorem dX1_netCall_38 : decode cX1_netCall 38 = .ok (.iload_n 2, 1) := by decide +kernel
theorem dX1_netCall_39 : decode cX1_netCall 39 = .ok (.invokevirtual 79, 3) := by decide +kernel
theorem dX1_netCall_42 : decode cX1_netCall 42 = .ok (.ireturn, 1) := by decide +kernel
set_option maxRecDepth 20000 in
theorem ggX1_hangUp_X1_isStation : GoodIn wsX1_hangUp wsX1_isStation := goodIn_r _ [5] (by decide +kernel) (by decide +kernel)
set_option maxRecDepth 20000 in
theorem gX1_hangUp_X1_isStation : GoodIn wsX1_hangUp (va_wsS RX1 20 yX1_isStation wsX1_isStation) := goodIn_app (goodIn_of _ (by decide +kernel)) ggX1_hangUp_X1_isStation
set_option maxRecDepth 20000 in
theorem ggX1_hangUp_X1_countInvalid : GoodIn wsX1_hangUp wsX1_countInvalid := goodIn_r _ [9, 10, 72, 73, 74, 75, 76, 77] (by decide +kernel) (by decide +kernel)
set_option maxRecDepth 20000 in
theorem gX1_hangUp_X1_countInvalid : GoodIn wsX1_hangUp (wsV RX1 24 RX1 yX1_countInvalid wsX1_countInvalid) := goodIn_app (goodIn_of _ (by decide +kernel)) ggX1_hangUp_X1_countInvalid
set_option maxRecDepth 20000 in
theorem ggX1_hangUp_X0_isLinked : GoodIn wsX1_hangUp wsX0_isLinked := goodIn_r _ [15, 16, 78, 79, 80, 81, 82, 83, 84, 85, 86, 87, 88, 89, 90, 91, 92, 93] (by decide +kernel) (by decide +kernel)
set_option maxRecDepth 20000 in
theorem gX1_hangUp_X0_isLinked : GoodIn wsX1_hangUp (wsV RX1 59 RX0 yX0_isLinked wsX0_isLinked) := goodIn_app (goodIn_of _ (by decide +kernel)) ggX1_hangUp_X0_isLinked
set_option maxRecDepth 20000 in
theorem ggX1_hangUp_X1_countRejected : GoodIn wsX1_hangUp wsX1_countRejected := goodIn_r _ [20, 21, 72, 73, 74, 75, 76, 77] (by decide +kernel) (by decide +kernel)
set_option maxRecDepth 20000 in
theorem gX1_hangUp_X1_countRejected : GoodIn wsX1_hangUp (wsV RX1 62 RX1 yX1_countRejected wsX1_countRejected) := goodIn_app (goodIn_of _ (by decide +kernel)) ggX1_hangUp_X1_countRejected
set_option maxRecDepth 20000 in
theorem ggX1_hangUp_X1_saveState : GoodIn wsX1_hangUp wsX1_saveState := goodIn_r _ [25, 26, 27, 1, 28, 29, 30, 31, 32, 33, 34, 35, 14, 36, 37, 38, 39, 40, 41, 42, 43, 44, 45, 46, 47, 48, 49, 50, 16, 51, 52, 53, 54, 72, 73, 74, 75, 76, 77, 78, 79, 80, 81, 82, 83, 84, 85, 86, 87, 88, 89, 90, 91, 92, 93] (by decide +kernel) (by decide +kernel)
set_option maxRecDepth 20000 in
theorem gX1_hangUp_X1_saveState : GoodIn wsX1_hangUp (wsV RX1 28 RX1 yX1_saveState wsX1_saveState) := goodIn_app (goodIn_of _ (by decide +kernel)) ggX1_hangUp_X1_saveState
set_option maxRecDepth 20000 in
theorem ggX1_hangUp_X0_leaveLink : GoodIn wsX1_hangUp wsX0_leaveLink := goodIn_r _ [58, 16, 59, 60, 61, 62, 63, 64, 65, 66, 67, 68, 14, 69, 51, 70, 4, 71, 78, 79, 80, 81, 82, 83, 84, 85, 86, 87, 88, 89, 90, 91, 92, 93] (by decide +kernel) (by decide +kernel)
set_option maxRecDepth 20000 in
theorem gX1_hangUp_X0_leaveLink : GoodIn wsX1_hangUp (wsV RX1 82 RX0 yX0_leaveLink wsX0_leaveLink) := goodIn_app (goodIn_of _ (by decide +kernel)) ggX1_hangUp_X0_leaveLink
theorem dX1_hangUp_0 : decode cX1_hangUp 0 = .ok (.iload_n 1, 1) := by decide +kernel
theorem dX1_hangUp_1 : decode cX1_hangUp 1 = .ok (.invokestatic 20, 3) := by decide +kernel
theorem dX1_hangUp_4 : decode cX1_hangUp 4 = .ok (.ifCond .ne 8, 3) := by decide +kernel
theorem dX1_hangUp_7 : decode cX1_hangUp 7 = .ok (.aload_n 0, 1) := by decide +kernel
theorem dX1_hangUp_8 : decode cX1_hangUp 8 = .ok (.invokevirtual 24, 3) := by decide +kernel
theorem dX1_hangUp_11 : decode cX1_hangUp 11 = .ok (.ireturn, 1) := by decide +kernel
theorem dX1_hangUp_12 : decode cX1_hangUp 12 = .ok (.aload_n 0, 1) := by decide +kernel
theorem dX1_hangUp_13 : decode cX1_hangUp 13 = .ok (.getfield 12, 3) := by decide +kernel
theorem dX1_hangUp_16 : decode cX1_hangUp 16 = .ok (.iload_n 1, 1) := by decide +kernel
theorem dX1_hangUp_17 : decode cX1_hangUp 17 = .ok (.invokevirtual 59, 3) := by decide +kernel
theorem dX1_hangUp_20 : decode cX1_hangUp 20 = .ok (.ifCond .ne 8, 3) := by decide +kernel
theorem dX1_hangUp_23 : decode cX1_hangUp 23 = .ok (.aload_n 0, 1) := by decide +kernel
theorem dX1_hangUp_24 : decode cX1_hangUp 24 = .ok (.invokevirtual 62, 3) := by decide +kernel
theorem dX1_hangUp_27 : decode cX1_hangUp 27 = .ok (.ireturn, 1) := by decide +kernel
theorem dX1_hangUp_28 : decode cX1_hangUp 28 = .ok (.aload_n 0, 1) := by decide +kernel
theorem dX1_hangUp_29 : decode cX1_hangUp 29 = .ok (.invokevirtual 28, 3) := by decide +kernel
theorem dX1_hangUp_32 : decode cX1_hangUp 32 = .ok (.aload_n 0, 1) := by decide +kernel
theorem dX1_hangUp_33 : decode cX1_hangUp 33 = .ok (.getfield 12, 3) := by decide +kernel
theorem dX1_hangUp_36 : decode cX1_hangUp 36 = .ok (.iload_n 1, 1) := by decide +kernel
theorem dX1_hangUp_37 : decode cX1_hangUp 37 = .ok (.invokevirtual 82, 3) := by decide +kernel
theorem dX1_hangUp_40 : decode cX1_hangUp 40 = .ok (.ireturn, 1) := by decide +kernel
theorem dX1_attempts_0 : decode cX1_attempts 0 = .ok (.aload_n 0, 1) := by decide +kernel
theorem dX1_attempts_1 : decode cX1_attempts 1 = .ok (.getfield 12, 3) := by decide +kernel
theorem dX1_attempts_4 : decode cX1_attempts 4 = .ok (.getfield 86, 3) := by decide +kernel
theorem dX1_attempts_7 : decode cX1_attempts 7 = .ok (.ireturn, 1) := by decide +kernel
theorem dX1_lastChannel_0 : decode cX1_lastChannel 0 = .ok (.aload_n 0, 1) := by decide +kernel
theorem dX1_lastChannel_1 : decode cX1_lastChannel 1 = .ok (.getfield 12, 3) := by decide +kernel
theorem dX1_lastChannel_4 : decode cX1_lastChannel 4 = .ok (.getfield 89, 3) := by decide +kernel
theorem dX1_lastChannel_7 : decode cX1_lastChannel 7 = .ok (.ireturn, 1) := by decide +kernel
theorem dX1_lastUnanimous_0 : decode cX1_lastUnanimous 0 = .ok (.aload_n 0, 1) := by decide +kernel
theorem dX1_lastUnanimous_1 : decode cX1_lastUnanimous 1 = .ok (.getfield 12, 3) := by decide +kernel
theorem dX1_lastUnanimous_4 : decode cX1_lastUnanimous 4 = .ok (.getfield 92, 3) := by decide +kernel
theorem dX1_lastUnanimous_7 : decode cX1_lastUnanimous 7 = .ok (.ireturn, 1) := by decide +kernel
theorem dX1_lastVoted_0 : decode cX1_lastVoted 0 = .ok (.aload_n 0, 1) := by decide +kernel
theorem dX1_lastVoted_1 : decode cX1_lastVoted 1 = .ok (.getfield 12, 3) := by decide +kernel
theorem dX1_lastVoted_4 : decode cX1_lastVoted 4 = .ok (.getfield 95, 3) := by decide +kernel
theorem dX1_lastVoted_7 : decode cX1_lastVoted 7 = .ok (.ireturn, 1) := by decide +kernel
set_option maxRecDepth 20000 in
theorem ggX1_scan_X1_isStation : GoodIn wsX1_scan wsX1_isStation := goodIn_r _ [6] (by decide +kernel) (by decide +kernel)
set_option maxRecDepth 20000 in
theorem gX1_scan_X1_isStation : GoodIn wsX1_scan (va_wsS RX1 20 yX1_isStation wsX1_isStation) := goodIn_app (goodIn_of _ (by decide +kernel)) ggX1_scan_X1_isStation
set_option maxRecDepth 20000 in
theorem ggX1_scan_X1_countInvalid : GoodIn wsX1_scan wsX1_countInvalid := goodIn_r _ [10, 11, 12, 13, 14, 15, 16, 17] (by decide +kernel) (by decide +kernel)
set_option maxRecDepth 20000 in
theorem gX1_scan_X1_countInvalid : GoodIn wsX1_scan (wsV RX1 24 RX1 yX1_countInvalid wsX1_countInvalid) := goodIn_app (goodIn_of _ (by decide +kernel)) ggX1_scan_X1_countInvalid
theorem dX1_scan_0 : decode cX1_scan 0 = .ok (.iload_n 1, 1) := by decide +kernel
theorem dX1_scan_1 : decode cX1_scan 1 = .ok (.invokestatic 20, 3) := by decide +kernel
theorem dX1_scan_4 : decode cX1_scan 4 = .ok (.ifCond .ne 8, 3) := by decide +kernel
theorem dX1_scan_7 : decode cX1_scan 7 = .ok (.aload_n 0, 1) := by decide +kernel
theorem dX1_scan_8 : decode cX1_scan 8 = .ok (.invokevirtual 24, 3) := by decide +kernel
theorem dX1_scan_11 : decode cX1_scan 11 = .ok (.ireturn, 1) := by decide +kernel
theorem dX1_scan_12 : decode cX1_scan 12 = .ok (.aload_n 0, 1) := by decide +kernel
theorem dX1_scan_13 : decode cX1_scan 13 = .ok (.getfield 12, 3) := by decide +kernel
theorem dX1_scan_16 : decode cX1_scan 16 = .ok (.getfield 31, 3) := by decide +kernel
theorem dX1_scan_19 : decode cX1_scan 19 = .ok (.iload_n 1, 1) := by decide +kernel
theorem dX1_scan_20 : decode cX1_scan 20 = .ok (.iaload, 1) := by decide +kernel
theorem dX1_scan_21 : decode cX1_scan 21 = .ok (.ireturn, 1) := by decide +kernel
set_option maxRecDepth 20000 in
theorem ggX1_listening_X1_isStation : GoodIn wsX1_listening wsX1_isStation := goodIn_r _ [5] (by decide +kernel) (by decide +kernel)
set_option maxRecDepth 20000 in
theorem gX1_listening_X1_isStation : GoodIn wsX1_listening (va_wsS RX1 20 yX1_isStation wsX1_isStation) := goodIn_app (goodIn_of _ (by decide +kernel)) ggX1_listening_X1_isStation
set_option maxRecDepth 20000 in
theorem ggX1_listening_X1_countInvalid : GoodIn wsX1_listening wsX1_countInvalid := goodIn_r _ [9, 10, 36, 37, 38, 39, 40, 41] (by decide +kernel) (by decide +kernel)
set_option maxRecDepth 20000 in
theorem gX1_listening_X1_countInvalid : GoodIn wsX1_listening (wsV RX1 24 RX1 yX1_countInvalid wsX1_countInvalid) := goodIn_app (goodIn_of _ (by decide +kernel)) ggX1_listening_X1_countInvalid
set_option maxRecDepth 20000 in
theorem ggX1_listening_X0_scannedChannel : GoodIn wsX1_listening wsX0_scannedChannel := goodIn_r _ [15, 16, 17, 18, 19, 20, 21, 22, 23, 24, 25, 26, 27, 14, 28, 29, 30, 31, 32, 33, 34, 4, 35, 42, 43, 44, 45, 46, 47, 48, 49, 50, 51, 52, 53, 54, 55, 56, 57] (by decide +kernel) (by decide +kernel)
set_option maxRecDepth 20000 in
theorem gX1_listening_X0_scannedChannel : GoodIn wsX1_listening (wsV RX1 98 RX0 yX0_scannedChannel wsX0_scannedChannel) := goodIn_app (goodIn_of _ (by decide +kernel)) ggX1_listening_X0_scannedChannel
theorem dX1_listening_0 : decode cX1_listening 0 = .ok (.iload_n 1, 1) := by decide +kernel
theorem dX1_listening_1 : decode cX1_listening 1 = .ok (.invokestatic 20, 3) := by decide +kernel
theorem dX1_listening_4 : decode cX1_listening 4 = .ok (.ifCond .ne 8, 3) := by decide +kernel
theorem dX1_listening_7 : decode cX1_listening 7 = .ok (.aload_n 0, 1) := by decide +kernel
theorem dX1_listening_8 : decode cX1_listening 8 = .ok (.invokevirtual 24, 3) := by decide +kernel
theorem dX1_listening_11 : decode cX1_listening 11 = .ok (.ireturn, 1) := by decide +kernel
theorem dX1_listening_12 : decode cX1_listening 12 = .ok (.aload_n 0, 1) := by decide +kernel
theorem dX1_listening_13 : decode cX1_listening 13 = .ok (.getfield 12, 3) := by decide +kernel
theorem dX1_listening_16 : decode cX1_listening 16 = .ok (.iload_n 1, 1) := by decide +kernel
theorem dX1_listening_17 : decode cX1_listening 17 = .ok (.invokevirtual 98, 3) := by decide +kernel
theorem dX1_listening_20 : decode cX1_listening 20 = .ok (.ireturn, 1) := by decide +kernel
set_option maxRecDepth 20000 in
theorem ggX1_quality_X1_isCell : GoodIn wsX1_quality wsX1_isCell := goodIn_r _ [6, 7, 8, 5, 9, 10, 11, 12, 13, 14, 15] (by decide +kernel) (by decide +kernel)
set_option maxRecDepth 20000 in
theorem gX1_quality_X1_isCell : GoodIn wsX1_quality (va_wsS RX1 35 yX1_isCell wsX1_isCell) := goodIn_app (goodIn_of _ (by decide +kernel)) ggX1_quality_X1_isCell
set_option maxRecDepth 20000 in
theorem ggX1_quality_X1_countInvalid : GoodIn wsX1_quality wsX1_countInvalid := goodIn_r _ [19, 20, 24, 25, 26, 27, 28, 29] (by decide +kernel) (by decide +kernel)
set_option maxRecDepth 20000 in
theorem gX1_quality_X1_countInvalid : GoodIn wsX1_quality (wsV RX1 24 RX1 yX1_countInvalid wsX1_countInvalid) := goodIn_app (goodIn_of _ (by decide +kernel)) ggX1_quality_X1_countInvalid
set_option maxRecDepth 20000 in
theorem ggX1_quality_X1_cell : GoodIn wsX1_quality wsX1_cell := goodIn_r _ [23] (by decide +kernel) (by decide +kernel)
set_option maxRecDepth 20000 in
theorem gX1_quality_X1_cell : GoodIn wsX1_quality (va_wsS RX1 42 yX1_cell wsX1_cell) := goodIn_app (goodIn_of _ (by decide +kernel)) ggX1_quality_X1_cell
theorem dX1_quality_0 : decode cX1_quality 0 = .ok (.iload_n 1, 1) := by decide +kernel
theorem dX1_quality_1 : decode cX1_quality 1 = .ok (.iload_n 2, 1) := by decide +kernel
theorem dX1_quality_2 : decode cX1_quality 2 = .ok (.iload_n 3, 1) := by decide +kernel
theorem dX1_quality_3 : decode cX1_quality 3 = .ok (.invokestatic 35, 3) := by decide +kernel
theorem dX1_quality_6 : decode cX1_quality 6 = .ok (.ifCond .ne 8, 3) := by decide +kernel
theorem dX1_quality_9 : decode cX1_quality 9 = .ok (.aload_n 0, 1) := by decide +kernel
theorem dX1_quality_10 : decode cX1_quality 10 = .ok (.invokevirtual 24, 3) := by decide +kernel
theorem dX1_quality_13 : decode cX1_quality 13 = .ok (.ireturn, 1) := by decide +kernel
theorem dX1_quality_14 : decode cX1_quality 14 = .ok (.aload_n 0, 1) := by decide +kernel
theorem dX1_quality_15 : decode cX1_quality 15 = .ok (.getfield 12, 3) := by decide +kernel
theorem dX1_quality_18 : decode cX1_quality 18 = .ok (.getfield 39, 3) := by decide +kernel
theorem dX1_quality_21 : decode cX1_quality 21 = .ok (.iload_n 1, 1) := by decide +kernel
theorem dX1_quality_22 : decode cX1_quality 22 = .ok (.iload_n 2, 1) := by decide +kernel
theorem dX1_quality_23 : decode cX1_quality 23 = .ok (.iload_n 3, 1) := by decide +kernel
theorem dX1_quality_24 : decode cX1_quality 24 = .ok (.invokestatic 42, 3) := by decide +kernel
theorem dX1_quality_27 : decode cX1_quality 27 = .ok (.iaload, 1) := by decide +kernel
theorem dX1_quality_28 : decode cX1_quality 28 = .ok (.ireturn, 1) := by decide +kernel
set_option maxRecDepth 20000 in
theorem ggX1_score_X1_isCell : GoodIn wsX1_score wsX1_isCell := goodIn_r _ [6, 7, 8, 5, 9, 10, 11, 12, 13, 14, 15] (by decide +kernel) (by decide +kernel)
set_option maxRecDepth 20000 in
theorem gX1_score_X1_isCell : GoodIn wsX1_score (va_wsS RX1 35 yX1_isCell wsX1_isCell) := goodIn_app (goodIn_of _ (by decide +kernel)) ggX1_score_X1_isCell
set_option maxRecDepth 20000 in
theorem ggX1_score_X1_countInvalid : GoodIn wsX1_score wsX1_countInvalid := goodIn_r _ [19, 20, 24, 25, 26, 27, 28, 29] (by decide +kernel) (by decide +kernel)
set_option maxRecDepth 20000 in
theorem gX1_score_X1_countInvalid : GoodIn wsX1_score (wsV RX1 24 RX1 yX1_countInvalid wsX1_countInvalid) := goodIn_app (goodIn_of _ (by decide +kernel)) ggX1_score_X1_countInvalid
set_option maxRecDepth 20000 in
theorem ggX1_score_X1_cell : GoodIn wsX1_score wsX1_cell := goodIn_r _ [23] (by decide +kernel) (by decide +kernel)
set_option maxRecDepth 20000 in
theorem gX1_score_X1_cell : GoodIn wsX1_score (va_wsS RX1 42 yX1_cell wsX1_cell) := goodIn_app (goodIn_of _ (by decide +kernel)) ggX1_score_X1_cell
theorem dX1_score_0 : decode cX1_score 0 = .ok (.iload_n 1, 1) := by decide +kernel
theorem dX1_score_1 : decode cX1_score 1 = .ok (.iload_n 2, 1) := by decide +kernel
theorem dX1_score_2 : decode cX1_score 2 = .ok (.iload_n 3, 1) := by decide +kernel
theorem dX1_score_3 : decode cX1_score 3 = .ok (.invokestatic 35, 3) := by decide +kernel
theorem dX1_score_6 : decode cX1_score 6 = .ok (.ifCond .ne 8, 3) := by decide +kernel
theorem dX1_score_9 : decode cX1_score 9 = .ok (.aload_n 0, 1) := by decide +kernel
theorem dX1_score_10 : decode cX1_score 10 = .ok (.invokevirtual 24, 3) := by decide +kernel
theorem dX1_score_13 : decode cX1_score 13 = .ok (.ireturn, 1) := by decide +kernel
theorem dX1_score_14 : decode cX1_score 14 = .ok (.aload_n 0, 1) := by decide +kernel
theorem dX1_score_15 : decode cX1_score 15 = .ok (.getfield 12, 3) := by decide +kernel
theorem dX1_score_18 : decode cX1_score 18 = .ok (.getfield 101, 3) := by decide +kernel
theorem dX1_score_21 : decode cX1_score 21 = .ok (.iload_n 1, 1) := by decide +kernel
theorem dX1_score_22 : decode cX1_score 22 = .ok (.iload_n 2, 1) := by decide +kernel
theorem dX1_score_23 : decode cX1_score 23 = .ok (.iload_n 3, 1) := by decide +kernel
theorem dX1_score_24 : decode cX1_score 24 = .ok (.invokestatic 42, 3) := by decide +kernel
theorem dX1_score_27 : decode cX1_score 27 = .ok (.iaload, 1) := by decide +kernel
theorem dX1_score_28 : decode cX1_score 28 = .ok (.ireturn, 1) := by decide +kernel
set_option maxRecDepth 20000 in
theorem ggX1_effective_X1_isCell : GoodIn wsX1_effective wsX1_isCell := goodIn_r _ [5, 6, 7, 4, 8, 9, 10, 11, 12, 13, 14] (by decide +kernel) (by decide +kernel)
set_option maxRecDepth 20000 in
theorem gX1_effective_X1_isCell : GoodIn wsX1_effective (va_wsS RX1 35 yX1_isCell wsX1_isCell) := goodIn_app (goodIn_of _ (by decide +kernel)) ggX1_effective_X1_isCell
set_option maxRecDepth 20000 in
theorem ggX1_effective_X1_countInvalid : GoodIn wsX1_effective wsX1_countInvalid := goodIn_r _ [18, 19, 35, 36, 37, 38, 39, 40] (by decide +kernel) (by decide +kernel)
set_option maxRecDepth 20000 in
theorem gX1_effective_X1_countInvalid : GoodIn wsX1_effective (wsV RX1 24 RX1 yX1_countInvalid wsX1_countInvalid) := goodIn_app (goodIn_of _ (by decide +kernel)) ggX1_effective_X1_countInvalid
set_option maxRecDepth 20000 in
theorem ggX1_effective_X0_agedScore : GoodIn wsX1_effective wsX0_agedScore := goodIn_r _ [24, 25, 26, 27, 28, 29, 30, 31, 32, 33, 4, 34, 41, 42, 43, 44, 45, 46, 47, 48, 49, 50, 51, 52, 53, 54, 55, 56] (by decide +kernel) (by decide +kernel)
set_option maxRecDepth 20000 in
theorem gX1_effective_X0_agedScore : GoodIn wsX1_effective (wsV RX1 104 RX0 yX0_agedScore wsX0_agedScore) := goodIn_app (goodIn_of _ (by decide +kernel)) ggX1_effective_X0_agedScore
theorem dX1_effective_0 : decode cX1_effective 0 = .ok (.iload_n 1, 1) := by decide +kernel
theorem dX1_effective_1 : decode cX1_effective 1 = .ok (.iload_n 2, 1) := by decide +kernel
theorem dX1_effective_2 : decode cX1_effective 2 = .ok (.iload_n 3, 1) := by decide +kernel
theorem dX1_effective_3 : decode cX1_effective 3 = .ok (.invokestatic 35, 3) := by decide +kernel
theorem dX1_effective_6 : decode cX1_effective 6 = .ok (.ifCond .ne 8, 3) := by decide +kernel
theorem dX1_effective_9 : decode cX1_effective 9 = .ok (.aload_n 0, 1) := by decide +kernel
theorem dX1_effective_10 : decode cX1_effective 10 = .ok (.invokevirtual 24, 3) := by decide +kernel
theorem dX1_effective_13 : decode cX1_effective 13 = .ok (.ireturn, 1) := by decide +kernel
theorem dX1_effective_14 : decode cX1_effective 14 = .ok (.aload_n 0, 1) := by decide +kernel
theorem dX1_effective_15 : decode cX1_effective 15 = .ok (.getfield 12, 3) := by decide +kernel
theorem dX1_effective_18 : decode cX1_effective 18 = .ok (.iload_n 1, 1) := by decide +kernel
theorem dX1_effective_19 : decode cX1_effective 19 = .ok (.iload_n 2, 1) := by decide +kernel
theorem dX1_effective_20 : decode cX1_effective 20 = .ok (.iload_n 3, 1) := by decide +kernel
theorem dX1_effective_21 : decode cX1_effective 21 = .ok (.invokevirtual 104, 3) := by decide +kernel
theorem dX1_effective_24 : decode cX1_effective 24 = .ok (.ireturn, 1) := by decide +kernel
set_option maxRecDepth 20000 in
theorem ggX1_bestChannel_X1_isPair : GoodIn wsX1_bestChannel wsX1_isPair := goodIn_r _ [5, 6, 7, 4, 8] (by decide +kernel) (by decide +kernel)
set_option maxRecDepth 20000 in
theorem gX1_bestChannel_X1_isPair : GoodIn wsX1_bestChannel (va_wsS RX1 69 yX1_isPair wsX1_isPair) := goodIn_app (goodIn_of _ (by decide +kernel)) ggX1_bestChannel_X1_isPair
set_option maxRecDepth 20000 in
theorem ggX1_bestChannel_X1_countInvalid : GoodIn wsX1_bestChannel wsX1_countInvalid := goodIn_r _ [12, 13, 52, 53, 54, 55, 56, 57] (by decide +kernel) (by decide +kernel)
set_option maxRecDepth 20000 in
theorem gX1_bestChannel_X1_countInvalid : GoodIn wsX1_bestChannel (wsV RX1 24 RX1 yX1_countInvalid wsX1_countInvalid) := goodIn_app (goodIn_of _ (by decide +kernel)) ggX1_bestChannel_X1_countInvalid
set_option maxRecDepth 20000 in
theorem ggX1_bestChannel_X0_preferredChannel : GoodIn wsX1_bestChannel wsX0_preferredChannel := goodIn_r _ [18, 19, 20, 21, 22, 17, 23, 24, 25, 26, 27, 28, 29, 30, 31, 32, 33, 4, 34, 35, 36, 37, 38, 39, 40, 41, 42, 43, 44, 45, 46, 47, 48, 49, 50, 51, 58, 59, 60, 61, 62, 63, 64, 65, 66, 67, 68, 69, 70, 71, 72, 73] (by decide +kernel) (by decide +kernel)
set_option maxRecDepth 20000 in
theorem gX1_bestChannel_X0_preferredChannel : GoodIn wsX1_bestChannel (wsV RX1 107 RX0 yX0_preferredChannel wsX0_preferredChannel) := goodIn_app (goodIn_of _ (by decide +kernel)) ggX1_bestChannel_X0_preferredChannel
theorem dX1_bestChannel_0 : decode cX1_bestChannel 0 = .ok (.iload_n 1, 1) := by decide +kernel
theorem dX1_bestChannel_1 : decode cX1_bestChannel 1 = .ok (.iload_n 2, 1) := by decide +kernel
theorem dX1_bestChannel_2 : decode cX1_bestChannel 2 = .ok (.invokestatic 69, 3) := by decide +kernel
theorem dX1_bestChannel_5 : decode cX1_bestChannel 5 = .ok (.ifCond .ne 8, 3) := by decide +kernel
theorem dX1_bestChannel_8 : decode cX1_bestChannel 8 = .ok (.aload_n 0, 1) := by decide +kernel
theorem dX1_bestChannel_9 : decode cX1_bestChannel 9 = .ok (.invokevirtual 24, 3) := by decide +kernel
theorem dX1_bestChannel_12 : decode cX1_bestChannel 12 = .ok (.ireturn, 1) := by decide +kernel
theorem dX1_bestChannel_13 : decode cX1_bestChannel 13 = .ok (.aload_n 0, 1) := by decide +kernel
theorem dX1_bestChannel_14 : decode cX1_bestChannel 14 = .ok (.getfield 12, 3) := by decide +kernel
theorem dX1_bestChannel_17 : decode cX1_bestChannel 17 = .ok (.iload_n 1, 1) := by decide +kernel
theorem dX1_bestChannel_18 : decode cX1_bestChannel 18 = .ok (.iconst 1, 1) := by decide +kernel
theorem dX1_bestChannel_19 : decode cX1_bestChannel 19 = .ok (.iload_n 2, 1) := by decide +kernel
theorem dX1_bestChannel_20 : decode cX1_bestChannel 20 = .ok (.ishl, 1) := by decide +kernel
theorem dX1_bestChannel_21 : decode cX1_bestChannel 21 = .ok (.invokevirtual 107, 3) := by decide +kernel
theorem dX1_bestChannel_24 : decode cX1_bestChannel 24 = .ok (.ireturn, 1) := by decide +kernel
set_option maxRecDepth 20000 in
theorem ggX1_netChannel_X1_isNet : GoodIn wsX1_netChannel wsX1_isNet := goodIn_r _ [5, 6, 7, 4, 8, 9, 10, 11] (by decide +kernel) (by decide +kernel)
set_option maxRecDepth 20000 in
theorem gX1_netChannel_X1_isNet : GoodIn wsX1_netChannel (va_wsS RX1 76 yX1_isNet wsX1_isNet) := goodIn_app (goodIn_of _ (by decide +kernel)) ggX1_netChannel_X1_isNet
set_option maxRecDepth 20000 in
theorem ggX1_netChannel_X1_countInvalid : GoodIn wsX1_netChannel wsX1_countInvalid := goodIn_r _ [15, 16, 53, 54, 55, 56, 57, 58] (by decide +kernel) (by decide +kernel)
set_option maxRecDepth 20000 in
theorem gX1_netChannel_X1_countInvalid : GoodIn wsX1_netChannel (wsV RX1 24 RX1 yX1_countInvalid wsX1_countInvalid) := goodIn_app (goodIn_of _ (by decide +kernel)) ggX1_netChannel_X1_countInvalid
set_option maxRecDepth 20000 in
theorem ggX1_netChannel_X0_preferredChannel : GoodIn wsX1_netChannel wsX0_preferredChannel := goodIn_r _ [21, 22, 23, 24, 25, 20, 26, 27, 28, 29, 30, 31, 32, 33, 34, 35, 10, 4, 11, 36, 37, 38, 39, 40, 41, 42, 43, 44, 45, 46, 47, 48, 49, 50, 51, 52, 59, 60, 61, 62, 63, 64, 65, 66, 67, 68, 69, 70, 71, 72, 73, 74] (by decide +kernel) (by decide +kernel)
set_option maxRecDepth 20000 in
theorem gX1_netChannel_X0_preferredChannel : GoodIn wsX1_netChannel (wsV RX1 107 RX0 yX0_preferredChannel wsX0_preferredChannel) := goodIn_app (goodIn_of _ (by decide +kernel)) ggX1_netChannel_X0_preferredChannel
theorem dX1_netChannel_0 : decode cX1_netChannel 0 = .ok (.iload_n 1, 1) := by decide +kernel
theorem dX1_netChannel_1 : decode cX1_netChannel 1 = .ok (.iload_n 2, 1) := by decide +kernel
theorem dX1_netChannel_2 : decode cX1_netChannel 2 = .ok (.invokestatic 76, 3) := by decide +kernel
theorem dX1_netChannel_5 : decode cX1_netChannel 5 = .ok (.ifCond .ne 8, 3) := by decide +kernel
theorem dX1_netChannel_8 : decode cX1_netChannel 8 = .ok (.aload_n 0, 1) := by decide +kernel
theorem dX1_netChannel_9 : decode cX1_netChannel 9 = .ok (.invokevirtual 24, 3) := by decide +kernel
theorem dX1_netChannel_12 : decode cX1_netChannel 12 = .ok (.ireturn, 1) := by decide +kernel
theorem dX1_netChannel_13 : decode cX1_netChannel 13 = .ok (.aload_n 0, 1) := by decide +kernel
theorem dX1_netChannel_14 : decode cX1_netChannel 14 = .ok (.getfield 12, 3) := by decide +kernel
theorem dX1_netChannel_17 : decode cX1_netChannel 17 = .ok (.iload_n 1, 1) := by decide +kernel
theorem dX1_netChannel_18 : decode cX1_netChannel 18 = .ok (.iload_n 2, 1) := by decide +kernel
theorem dX1_netChannel_19 : decode cX1_netChannel 19 = .ok (.invokevirtual 107, 3) := by decide +kernel
theorem dX1_netChannel_22 : decode cX1_netChannel 22 = .ok (.ireturn, 1) := by decide +kernel
set_option maxRecDepth 20000 in
theorem ggX1_link_X1_isStation : GoodIn wsX1_link wsX1_isStation := goodIn_r _ [6] (by decide +kernel) (by decide +kernel)
set_option maxRecDepth 20000 in
theorem gX1_link_X1_isStation : GoodIn wsX1_link (va_wsS RX1 20 yX1_isStation wsX1_isStation) := goodIn_app (goodIn_of _ (by decide +kernel)) ggX1_link_X1_isStation
set_option maxRecDepth 20000 in
theorem ggX1_link_X1_countInvalid : GoodIn wsX1_link wsX1_countInvalid := goodIn_r _ [10, 11, 12, 13, 14, 15, 16, 17] (by decide +kernel) (by decide +kernel)
set_option maxRecDepth 20000 in
theorem gX1_link_X1_countInvalid : GoodIn wsX1_link (wsV RX1 24 RX1 yX1_countInvalid wsX1_countInvalid) := goodIn_app (goodIn_of _ (by decide +kernel)) ggX1_link_X1_countInvalid
theorem dX1_link_0 : decode cX1_link 0 = .ok (.iload_n 1, 1) := by decide +kernel
theorem dX1_link_1 : decode cX1_link 1 = .ok (.invokestatic 20, 3) := by decide +kernel
theorem dX1_link_4 : decode cX1_link 4 = .ok (.ifCond .ne 8, 3) := by decide +kernel
theorem dX1_link_7 : decode cX1_link 7 = .ok (.aload_n 0, 1) := by decide +kernel
theorem dX1_link_8 : decode cX1_link 8 = .ok (.invokevirtual 24, 3) := by decide +kernel
theorem dX1_link_11 : decode cX1_link 11 = .ok (.ireturn, 1) := by decide +kernel
theorem dX1_link_12 : decode cX1_link 12 = .ok (.aload_n 0, 1) := by decide +kernel
theorem dX1_link_13 : decode cX1_link 13 = .ok (.getfield 12, 3) := by decide +kernel
theorem dX1_link_16 : decode cX1_link 16 = .ok (.getfield 110, 3) := by decide +kernel
theorem dX1_link_19 : decode cX1_link 19 = .ok (.iload_n 1, 1) := by decide +kernel
theorem dX1_link_20 : decode cX1_link 20 = .ok (.iaload, 1) := by decide +kernel
theorem dX1_link_21 : decode cX1_link 21 = .ok (.ireturn, 1) := by decide +kernel
set_option maxRecDepth 20000 in
theorem ggX1_linkChannel_X1_isStation : GoodIn wsX1_linkChannel wsX1_isStation := goodIn_r _ [6] (by decide +kernel) (by decide +kernel)
set_option maxRecDepth 20000 in
theorem gX1_linkChannel_X1_isStation : GoodIn wsX1_linkChannel (va_wsS RX1 20 yX1_isStation wsX1_isStation) := goodIn_app (goodIn_of _ (by decide +kernel)) ggX1_linkChannel_X1_isStation
set_option maxRecDepth 20000 in
theorem ggX1_linkChannel_X1_countInvalid : GoodIn wsX1_linkChannel wsX1_countInvalid := goodIn_r _ [10, 11, 12, 13, 14, 15, 16, 17] (by decide +kernel) (by decide +kernel)
set_option maxRecDepth 20000 in
theorem gX1_linkChannel_X1_countInvalid : GoodIn wsX1_linkChannel (wsV RX1 24 RX1 yX1_countInvalid wsX1_countInvalid) := goodIn_app (goodIn_of _ (by decide +kernel)) ggX1_linkChannel_X1_countInvalid
theorem dX1_linkChannel_0 : decode cX1_linkChannel 0 = .ok (.iload_n 1, 1) := by decide +kernel
theorem dX1_linkChannel_1 : decode cX1_linkChannel 1 = .ok (.invokestatic 20, 3) := by decide +kernel
theorem dX1_linkChannel_4 : decode cX1_linkChannel 4 = .ok (.ifCond .ne 8, 3) := by decide +kernel
theorem dX1_linkChannel_7 : decode cX1_linkChannel 7 = .ok (.aload_n 0, 1) := by decide +kernel
theorem dX1_linkChannel_8 : decode cX1_linkChannel 8 = .ok (.invokevirtual 24, 3) := by decide +kernel
theorem dX1_linkChannel_11 : decode cX1_linkChannel 11 = .ok (.ireturn, 1) := by decide +kernel
theorem dX1_linkChannel_12 : decode cX1_linkChannel 12 = .ok (.aload_n 0, 1) := by decide +kernel
theorem dX1_linkChannel_13 : decode cX1_linkChannel 13 = .ok (.getfield 12, 3) := by decide +kernel
theorem dX1_linkChannel_16 : decode cX1_linkChannel 16 = .ok (.getfield 113, 3) := by decide +kernel
theorem dX1_linkChannel_19 : decode cX1_linkChannel 19 = .ok (.iload_n 1, 1) := by decide +kernel
theorem dX1_linkChannel_20 : decode cX1_linkChannel 20 = .ok (.iaload, 1) := by decide +kernel
theorem dX1_linkChannel_21 : decode cX1_linkChannel 21 = .ok (.ireturn, 1) := by decide +kernel
theorem dX1_time_0 : decode cX1_time 0 = .ok (.aload_n 0, 1) := by decide +kernel
theorem dX1_time_1 : decode cX1_time 1 = .ok (.getfield 12, 3) := by decide +kernel
theorem dX1_time_4 : decode cX1_time 4 = .ok (.getfield 53, 3) := by decide +kernel
theorem dX1_time_7 : decode cX1_time 7 = .ok (.ireturn, 1) := by decide +kernel
theorem dX1_transmitted_0 : decode cX1_transmitted 0 = .ok (.aload_n 0, 1) := by decide +kernel
theorem dX1_transmitted_1 : decode cX1_transmitted 1 = .ok (.getfield 12, 3) := by decide +kernel
theorem dX1_transmitted_4 : decode cX1_transmitted 4 = .ok (.getfield 116, 3) := by decide +kernel
theorem dX1_transmitted_7 : decode cX1_transmitted 7 = .ok (.ireturn, 1) := by decide +kernel
theorem dX1_decoded_0 : decode cX1_decoded 0 = .ok (.aload_n 0, 1) := by decide +kernel
theorem dX1_decoded_1 : decode cX1_decoded 1 = .ok (.getfield 12, 3) := by decide +kernel
theorem dX1_decoded_4 : decode cX1_decoded 4 = .ok (.getfield 119, 3) := by decide +kernel
theorem dX1_decoded_7 : decode cX1_decoded 7 = .ok (.ireturn, 1) := by decide +kernel
set_option maxRecDepth 20000 in
theorem ggX1_vote_X1_isWord : GoodIn wsX1_vote wsX1_isWord := goodIn_r _ [4, 5] (by decide +kernel) (by decide +kernel)
set_option maxRecDepth 20000 in
theorem gX1_vote_X1_isWord : GoodIn wsX1_vote (va_wsS RX1 122 yX1_isWord wsX1_isWord) := goodIn_app (goodIn_of _ (by decide +kernel)) ggX1_vote_X1_isWord
set_option maxRecDepth 20000 in
theorem ggX1_vote_X1_countInvalid : GoodIn wsX1_vote wsX1_countInvalid := goodIn_r _ [9, 10, 14, 15, 16, 17, 18, 19] (by decide +kernel) (by decide +kernel)
set_option maxRecDepth 20000 in
theorem gX1_vote_X1_countInvalid : GoodIn wsX1_vote (wsV RX1 24 RX1 yX1_countInvalid wsX1_countInvalid) := goodIn_app (goodIn_of _ (by decide +kernel)) ggX1_vote_X1_countInvalid
set_option maxRecDepth 20000 in
theorem ggX1_vote_X1_majority : GoodIn wsX1_vote wsX1_majority := goodIn_r _ [13] (by decide +kernel) (by decide +kernel)
set_option maxRecDepth 20000 in
theorem gX1_vote_X1_majority : GoodIn wsX1_vote (va_wsS RX1 125 yX1_majority wsX1_majority) := goodIn_app (goodIn_of _ (by decide +kernel)) ggX1_vote_X1_majority
theorem dX1_vote_0 : decode cX1_vote 0 = .ok (.iload_n 1, 1) := by decide +kernel
theorem dX1_vote_1 : decode cX1_vote 1 = .ok (.invokestatic 122, 3) := by decide +kernel
theorem dX1_vote_4 : decode cX1_vote 4 = .ok (.ifCond .eq 17, 3) := by decide +kernel
theorem dX1_vote_7 : decode cX1_vote 7 = .ok (.iload_n 2, 1) := by decide +kernel
theorem dX1_vote_8 : decode cX1_vote 8 = .ok (.invokestatic 122, 3) := by decide +kernel
theorem dX1_vote_11 : decode cX1_vote 11 = .ok (.ifCond .eq 10, 3) := by decide +kernel
theorem dX1_vote_14 : decode cX1_vote 14 = .ok (.iload_n 3, 1) := by decide +kernel
theorem dX1_vote_15 : decode cX1_vote 15 = .ok (.invokestatic 122, 3) := by decide +kernel
theorem dX1_vote_18 : decode cX1_vote 18 = .ok (.ifCond .ne 8, 3) := by decide +kernel
theorem dX1_vote_21 : decode cX1_vote 21 = .ok (.aload_n 0, 1) := by decide +kernel
theorem dX1_vote_22 : decode cX1_vote 22 = .ok (.invokevirtual 24, 3) := by decide +kernel
theorem dX1_vote_25 : decode cX1_vote 25 = .ok (.ireturn, 1) := by decide +kernel
theorem dX1_vote_26 : decode cX1_vote 26 = .ok (.iload_n 1, 1) := by decide +kernel
theorem dX1_vote_27 : decode cX1_vote 27 = .ok (.iload_n 2, 1) := by decide +kernel
theorem dX1_vote_28 : decode cX1_vote 28 = .ok (.iload_n 3, 1) := by decide +kernel
theorem dX1_vote_29 : decode cX1_vote 29 = .ok (.invokestatic 125, 3) := by decide +kernel
theorem dX1_vote_32 : decode cX1_vote 32 = .ok (.ireturn, 1) := by decide +kernel
set_option maxRecDepth 20000 in
theorem ggX1_undo_X1_countRejected : GoodIn wsX1_undo wsX1_countRejected := goodIn_r _ [9, 10, 35, 36, 37, 38, 39, 40] (by decide +kernel) (by decide +kernel)
set_option maxRecDepth 20000 in
theorem gX1_undo_X1_countRejected : GoodIn wsX1_undo (wsV RX1 62 RX1 yX1_countRejected wsX1_countRejected) := goodIn_app (goodIn_of _ (by decide +kernel)) ggX1_undo_X1_countRejected
set_option maxRecDepth 20000 in
theorem ggX1_undo_X0_copyFrom : GoodIn wsX1_undo wsX0_copyFrom := goodIn_r _ [15, 16, 17, 18, 19, 20, 21, 22, 23, 24, 25, 26, 27, 28, 29, 30, 31, 32, 33, 34, 41, 42, 43, 44, 45, 46, 47, 48, 49, 50, 51, 52, 53, 54, 55, 56] (by decide +kernel) (by decide +kernel)
set_option maxRecDepth 20000 in
theorem gX1_undo_X0_copyFrom : GoodIn wsX1_undo (wsV RX1 134 RX0 yX0_copyFrom wsX0_copyFrom) := goodIn_app (goodIn_of _ (by decide +kernel)) ggX1_undo_X0_copyFrom
theorem dX1_undo_0 : decode cX1_undo 0 = .ok (.aload_n 0, 1) := by decide +kernel
theorem dX1_undo_1 : decode cX1_undo 1 = .ok (.getfield 128, 3) := by decide +kernel
theorem dX1_undo_4 : decode cX1_undo 4 = .ok (.ifCond .ne 8, 3) := by decide +kernel
theorem dX1_undo_7 : decode cX1_undo 7 = .ok (.aload_n 0, 1) := by decide +kernel
theorem dX1_undo_8 : decode cX1_undo 8 = .ok (.invokevirtual 62, 3) := by decide +kernel
theorem dX1_undo_11 : decode cX1_undo 11 = .ok (.ireturn, 1) := by decide +kernel
theorem dX1_undo_12 : decode cX1_undo 12 = .ok (.aload_n 0, 1) := by decide +kernel
theorem dX1_undo_13 : decode cX1_undo 13 = .ok (.aload_n 0, 1) := by decide +kernel
theorem dX1_undo_14 : decode cX1_undo 14 = .ok (.getfield 131, 3) := by decide +kernel
theorem dX1_undo_17 : decode cX1_undo 17 = .ok (.iconst 4, 1) := by decide +kernel
theorem dX1_undo_18 : decode cX1_undo 18 = .ok (.iadd, 1) := by decide +kernel
theorem dX1_undo_19 : decode cX1_undo 19 = .ok (.iconst 1, 1) := by decide +kernel
theorem dX1_undo_20 : decode cX1_undo 20 = .ok (.isub, 1) := by decide +kernel
theorem dX1_undo_21 : decode cX1_undo 21 = .ok (.iconst 4, 1) := by decide +kernel
theorem dX1_undo_22 : decode cX1_undo 22 = .ok (.irem, 1) := by decide +kernel
theorem dX1_undo_23 : decode cX1_undo 23 = .ok (.putfield 131, 3) := by decide +kernel
theorem dX1_undo_26 : decode cX1_undo 26 = .ok (.aload_n 0, 1) := by decide +kernel
theorem dX1_undo_27 : decode cX1_undo 27 = .ok (.dup, 1) := by decide +kernel
theorem dX1_undo_28 : decode cX1_undo 28 = .ok (.getfield 128, 3) := by decide +kernel
theorem dX1_undo_31 : decode cX1_undo 31 = .ok (.iconst 1, 1) := by decide +kernel
theorem dX1_undo_32 : decode cX1_undo 32 = .ok (.isub, 1) := by decide +kernel
theorem dX1_undo_33 : decode cX1_undo 33 = .ok (.putfield 128, 3) := by decide +kernel
theorem dX1_undo_36 : decode cX1_undo 36 = .ok (.aload_n 0, 1) := by decide +kernel
theorem dX1_undo_37 : decode cX1_undo 37 = .ok (.getfield 12, 3) := by decide +kernel
theorem dX1_undo_40 : decode cX1_undo 40 = .ok (.aload_n 0, 1) := by decide +kernel
theorem dX1_undo_41 : decode cX1_undo 41 = .ok (.getfield 16, 3) := by decide +kernel
theorem dX1_undo_44 : decode cX1_undo 44 = .ok (.aload_n 0, 1) := by decide +kernel
theorem dX1_undo_45 : decode cX1_undo 45 = .ok (.getfield 131, 3) := by decide +kernel
theorem dX1_undo_48 : decode cX1_undo 48 = .ok (.aaload, 1) := by decide +kernel
theorem dX1_undo_49 : decode cX1_undo 49 = .ok (.invokevirtual 134, 3) := by decide +kernel
theorem dX1_undo_52 : decode cX1_undo 52 = .ok (.aload_n 0, 1) := by decide +kernel
theorem dX1_undo_53 : decode cX1_undo 53 = .ok (.getfield 128, 3) := by decide +kernel
theorem dX1_undo_56 : decode cX1_undo 56 = .ok (.ireturn, 1) := by decide +kernel
set_option maxRecDepth 20000 in
theorem ggX1_errorCount_X1_countInvalid : GoodIn wsX1_errorCount wsX1_countInvalid := goodIn_r _ [7, 1, 8, 9, 10, 11, 12, 13] (by decide +kernel) (by decide +kernel)
set_option maxRecDepth 20000 in
theorem gX1_errorCount_X1_countInvalid : GoodIn wsX1_errorCount (wsV RX1 24 RX1 yX1_countInvalid wsX1_countInvalid) := goodIn_app (goodIn_of _ (by decide +kernel)) ggX1_errorCount_X1_countInvalid
theorem dX1_errorCount_0 : decode cX1_errorCount 0 = .ok (.iload_n 1, 1) := by decide +kernel
theorem dX1_errorCount_1 : decode cX1_errorCount 1 = .ok (.ifCond .ne 8, 3) := by decide +kernel
theorem dX1_errorCount_4 : decode cX1_errorCount 4 = .ok (.aload_n 0, 1) := by decide +kernel
theorem dX1_errorCount_5 : decode cX1_errorCount 5 = .ok (.getfield 138, 3) := by decide +kernel
theorem dX1_errorCount_8 : decode cX1_errorCount 8 = .ok (.ireturn, 1) := by decide +kernel
theorem dX1_errorCount_9 : decode cX1_errorCount 9 = .ok (.iload_n 1, 1) := by decide +kernel
theorem dX1_errorCount_10 : decode cX1_errorCount 10 = .ok (.iconst 1, 1) := by decide +kernel
theorem dX1_errorCount_11 : decode cX1_errorCount 11 = .ok (.if_icmp .ne 8, 3) := by decide +kernel
theorem dX1_errorCount_14 : decode cX1_errorCount 14 = .ok (.aload_n 0, 1) := by decide +kernel
theorem dX1_errorCount_15 : decode cX1_errorCount 15 = .ok (.getfield 141, 3) := by decide +kernel
theorem dX1_errorCount_18 : decode cX1_errorCount 18 = .ok (.ireturn, 1) := by decide +kernel
theorem dX1_errorCount_19 : decode cX1_errorCount 19 = .ok (.aload_n 0, 1) := by decide +kernel
theorem dX1_errorCount_20 : decode cX1_errorCount 20 = .ok (.invokevirtual 24, 3) := by decide +kernel
theorem dX1_errorCount_23 : decode cX1_errorCount 23 = .ok (.ireturn, 1) := by decide +kernel
set_option maxRecDepth 20000 in
theorem ggX1_digest_X1_mix : GoodIn wsX1_digest wsX1_mix := goodIn_r _ [9, 10] (by decide +kernel) (by decide +kernel)
set_option maxRecDepth 20000 in
theorem gX1_digest_X1_mix : GoodIn wsX1_digest (va_wsS RX1 146 yX1_mix wsX1_mix) := goodIn_app (goodIn_of _ (by decide +kernel)) ggX1_digest_X1_mix
set_option maxRecDepth 20000 in
theorem ggX1_digest_X0_mixCounters : GoodIn wsX1_digest wsX0_mixCounters := goodIn_r _ [15, 16, 17, 18, 19, 20, 21, 22, 23, 24, 7, 8, 9, 10, 54, 55, 56, 57, 58, 59, 60, 61, 62, 63, 64, 65, 66, 67, 68, 69] (by decide +kernel) (by decide +kernel)
set_option maxRecDepth 20000 in
theorem gX1_digest_X0_mixCounters : GoodIn wsX1_digest (wsV RX1 150 RX0 yX0_mixCounters wsX0_mixCounters) := goodIn_app (goodIn_of _ (by decide +kernel)) ggX1_digest_X0_mixCounters
set_option maxRecDepth 20000 in
theorem ggX1_digest_X0_mixStations : GoodIn wsX1_digest wsX0_mixStations := goodIn_r _ [28, 29, 30, 31, 7, 8, 9, 10, 54, 55, 56, 57, 58, 59, 60, 61, 62, 63, 64, 65, 66, 67, 68, 69] (by decide +kernel) (by decide +kernel)
set_option maxRecDepth 20000 in
theorem gX1_digest_X0_mixStations : GoodIn wsX1_digest (wsV RX1 154 RX0 yX0_mixStations wsX0_mixStations) := goodIn_app (goodIn_of _ (by decide +kernel)) ggX1_digest_X0_mixStations
set_option maxRecDepth 20000 in
theorem ggX1_digest_X0_mixScores : GoodIn wsX1_digest wsX0_mixScores := goodIn_r _ [35, 36, 37, 8, 38, 7, 9, 10, 39, 40, 41, 14, 42, 16, 43, 17, 44, 45, 46, 47, 54, 55, 56, 57, 58, 59, 60, 61, 62, 63, 64, 65, 66, 67, 68, 69] (by decide +kernel) (by decide +kernel)
set_option maxRecDepth 20000 in
theorem gX1_digest_X0_mixScores : GoodIn wsX1_digest (wsV RX1 157 RX0 yX0_mixScores wsX0_mixScores) := goodIn_app (goodIn_of _ (by decide +kernel)) ggX1_digest_X0_mixScores
theorem dX1_digest_0 : decode cX1_digest 0 = .ok (.ldc2_w 144, 3) := by decide +kernel
theorem dX1_digest_3 : decode cX1_digest 3 = .ok (.lstore_n 1, 1) := by decide +kernel
theorem dX1_digest_4 : decode cX1_digest 4 = .ok (.lload_n 1, 1) := by decide +kernel
theorem dX1_digest_5 : decode cX1_digest 5 = .ok (.aload_n 0, 1) := by decide +kernel
theorem dX1_digest_6 : decode cX1_digest 6 = .ok (.getfield 138, 3) := by decide +kernel
theorem dX1_digest_9 : decode cX1_digest 9 = .ok (.i2l, 1) := by decide +kernel
theorem dX1_digest_10 : decode cX1_digest 10 = .ok (.invokestatic 146, 3) := by decide +kernel
theorem dX1_digest_13 : decode cX1_digest 13 = .ok (.lstore_n 1, 1) := by decide +kernel
theorem dX1_digest_14 : decode cX1_digest 14 = .ok (.lload_n 1, 1) := by decide +kernel
theorem dX1_digest_15 : decode cX1_digest 15 = .ok (.aload_n 0, 1) := by decide +kernel
theorem dX1_digest_16 : decode cX1_digest 16 = .ok (.getfield 141, 3) := by decide +kernel
theorem dX1_digest_19 : decode cX1_digest 19 = .ok (.i2l, 1) := by decide +kernel
theorem dX1_digest_20 : decode cX1_digest 20 = .ok (.invokestatic 146, 3) := by decide +kernel
theorem dX1_digest_23 : decode cX1_digest 23 = .ok (.lstore_n 1, 1) := by decide +kernel
theorem dX1_digest_24 : decode cX1_digest 24 = .ok (.lload_n 1, 1) := by decide +kernel
theorem dX1_digest_25 : decode cX1_digest 25 = .ok (.aload_n 0, 1) := by decide +kernel
theorem dX1_digest_26 : decode cX1_digest 26 = .ok (.getfield 128, 3) := by decide +kernel
theorem dX1_digest_29 : decode cX1_digest 29 = .ok (.i2l, 1) := by decide +kernel
theorem dX1_digest_30 : decode cX1_digest 30 = .ok (.invokestatic 146, 3) := by decide +kernel
theorem dX1_digest_33 : decode cX1_digest 33 = .ok (.lstore_n 1, 1) := by decide +kernel
theorem dX1_digest_34 : decode cX1_digest 34 = .ok (.aload_n 0, 1) := by decide +kernel
theorem dX1_digest_35 : decode cX1_digest 35 = .ok (.getfield 12, 3) := by decide +kernel
theorem dX1_digest_38 : decode cX1_digest 38 = .ok (.lload_n 1, 1) := by decide +kernel
theorem dX1_digest_39 : decode cX1_digest 39 = .ok (.invokevirtual 150, 3) := by decide +kernel
theorem dX1_digest_42 : decode cX1_digest 42 = .ok (.lstore_n 1, 1) := by decide +kernel
theorem dX1_digest_43 : decode cX1_digest 43 = .ok (.aload_n 0, 1) := by decide +kernel
theorem dX1_digest_44 : decode cX1_digest 44 = .ok (.getfield 12, 3) := by decide +kernel
theorem dX1_digest_47 : decode cX1_digest 47 = .ok (.lload_n 1, 1) := by decide +kernel
theorem dX1_digest_48 : decode cX1_digest 48 = .ok (.invokevirtual 154, 3) := by decide +kernel
theorem dX1_digest_51 : decode cX1_digest 51 = .ok (.lstore_n 1, 1) := by decide +kernel
theorem dX1_digest_52 : decode cX1_digest 52 = .ok (.aload_n 0, 1) := by decide +kernel
theorem dX1_digest_53 : decode cX1_digest 53 = .ok (.getfield 12, 3) := by decide +kernel
theorem dX1_digest_56 : decode cX1_digest 56 = .ok (.lload_n 1, 1) := by decide +kernel
theorem dX1_digest_57 : decode cX1_digest 57 = .ok (.invokevirtual 157, 3) := by decide +kernel
theorem dX1_digest_60 : decode cX1_digest 60 = .ok (.lreturn, 1) := by decide +kernel
theorem dX1_countInvalid_0 : decode cX1_countInvalid 0 = .ok (.aload_n 0, 1) := by decide +kernel
theorem dX1_countInvalid_1 : decode cX1_countInvalid 1 = .ok (.dup, 1) := by decide +kernel
theorem dX1_countInvalid_2 : decode cX1_countInvalid 2 = .ok (.getfield 138, 3) := by decide +kernel
theorem dX1_countInvalid_5 : decode cX1_countInvalid 5 = .ok (.iconst 1, 1) := by decide +kernel
theorem dX1_countInvalid_6 : decode cX1_countInvalid 6 = .ok (.iadd, 1) := by decide +kernel
theorem dX1_countInvalid_7 : decode cX1_countInvalid 7 = .ok (.putfield 138, 3) := by decide +kernel
theorem dX1_countInvalid_10 : decode cX1_countInvalid 10 = .ok (.bipush (-2), 2) := by decide +kernel
theorem dX1_countInvalid_12 : decode cX1_countInvalid 12 = .ok (.ireturn, 1) := by decide +kernel
theorem dX1_countRejected_0 : decode cX1_countRejected 0 = .ok (.aload_n 0, 1) := by decide +kernel
theorem dX1_countRejected_1 : decode cX1_countRejected 1 = .ok (.dup, 1) := by decide +kernel
theorem dX1_countRejected_2 : decode cX1_countRejected 2 = .ok (.getfield 141, 3) := by decide +kernel
theorem dX1_countRejected_5 : decode cX1_countRejected 5 = .ok (.iconst 1, 1) := by decide +kernel
theorem dX1_countRejected_6 : decode cX1_countRejected 6 = .ok (.iadd, 1) := by decide +kernel
theorem dX1_countRejected_7 : decode cX1_countRejected 7 = .ok (.putfield 141, 3) := by decide +kernel
theorem dX1_countRejected_10 : decode cX1_countRejected 10 = .ok (.bipush (-3), 2) := by decide +kernel
theorem dX1_countRejected_12 : decode cX1_countRejected 12 = .ok (.ireturn, 1) := by decide +kernel
set_option maxRecDepth 20000 in
theorem ggX1_saveState_X0_copyFrom : GoodIn wsX1_saveState wsX0_copyFrom := goodIn_r _ [13, 14, 15, 16, 17, 18, 19, 20, 21, 22, 23, 24, 25, 26, 27, 28, 29, 30, 31, 32, 39, 40, 41, 42, 43, 44, 45, 46, 47, 48, 49, 50, 51, 52, 53, 54] (by decide +kernel) (by decide +kernel)
set_option maxRecDepth 20000 in
theorem gX1_saveState_X0_copyFrom : GoodIn wsX1_saveState (wsV RX1 134 RX0 yX0_copyFrom wsX0_copyFrom) := goodIn_app (goodIn_of _ (by decide +kernel)) ggX1_saveState_X0_copyFrom
theorem dX1_saveState_0 : decode cX1_saveState 0 = .ok (.aload_n 0, 1) := by decide +kernel
theorem dX1_saveState_1 : decode cX1_saveState 1 = .ok (.getfield 16, 3) := by decide +kernel
theorem dX1_saveState_4 : decode cX1_saveState 4 = .ok (.aload_n 0, 1) := by decide +kernel
theorem dX1_saveState_5 : decode cX1_saveState 5 = .ok (.getfield 131, 3) := by decide +kernel
theorem dX1_saveState_8 : decode cX1_saveState 8 = .ok (.aaload, 1) := by decide +kernel
theorem dX1_saveState_9 : decode cX1_saveState 9 = .ok (.aload_n 0, 1) := by decide +kernel
theorem dX1_saveState_10 : decode cX1_saveState 10 = .ok (.getfield 12, 3) := by decide +kernel
theorem dX1_saveState_13 : decode cX1_saveState 13 = .ok (.invokevirtual 134, 3) := by decide +kernel
theorem dX1_saveState_16 : decode cX1_saveState 16 = .ok (.aload_n 0, 1) := by decide +kernel
theorem dX1_saveState_17 : decode cX1_saveState 17 = .ok (.aload_n 0, 1) := by decide +kernel
theorem dX1_saveState_18 : decode cX1_saveState 18 = .ok (.getfield 131, 3) := by decide +kernel
theorem dX1_saveState_21 : decode cX1_saveState 21 = .ok (.iconst 1, 1) := by decide +kernel
theorem dX1_saveState_22 : decode cX1_saveState 22 = .ok (.iadd, 1) := by decide +kernel
theorem dX1_saveState_23 : decode cX1_saveState 23 = .ok (.iconst 4, 1) := by decide +kernel
theorem dX1_saveState_24 : decode cX1_saveState 24 = .ok (.irem, 1) := by decide +kernel
theorem dX1_saveState_25 : decode cX1_saveState 25 = .ok (.putfield 131, 3) := by decide +kernel
theorem dX1_saveState_28 : decode cX1_saveState 28 = .ok (.aload_n 0, 1) := by decide +kernel
theorem dX1_saveState_29 : decode cX1_saveState 29 = .ok (.aload_n 0, 1) := by decide +kernel
theorem dX1_saveState_30 : decode cX1_saveState 30 = .ok (.getfield 128, 3) := by decide +kernel
theorem dX1_saveState_33 : decode cX1_saveState 33 = .ok (.iconst 1, 1) := by decide +kernel
theorem dX1_saveState_34 : decode cX1_saveState 34 = .ok (.iadd, 1) := by decide +kernel
theorem dX1_saveState_35 : decode cX1_saveState 35 = .ok (.iconst 4, 1) := by decide +kernel
theorem dX1_saveState_36 : decode cX1_saveState 36 = .ok (.invokestatic 160, 3) := by decide +kernel
theorem dX1_saveState_39 : decode cX1_saveState 39 = .ok (.putfield 128, 3) := by decide +kernel
theorem dX1_saveState_42 : decode cX1_saveState 42 = .ok (.return_, 1) := by decide +kernel
theorem dX1_isStation_0 : decode cX1_isStation 0 = .ok (.iload_n 0, 1) := by decide +kernel
theorem dX1_isStation_1 : decode cX1_isStation 1 = .ok (.ifCond .lt 12, 3) := by decide +kernel
theorem dX1_isStation_4 : decode cX1_isStation 4 = .ok (.iload_n 0, 1) := by decide +kernel
theorem dX1_isStation_5 : decode cX1_isStation 5 = .ok (.iconst 5, 1) := by decide +kernel
theorem dX1_isStation_6 : decode cX1_isStation 6 = .ok (.if_icmp .ge 7, 3) := by decide +kernel
theorem dX1_isStation_9 : decode cX1_isStation 9 = .ok (.iconst 1, 1) := by decide +kernel
theorem dX1_isStation_10 : decode cX1_isStation 10 = .ok (.goto 4, 3) := by decide +kernel
theorem dX1_isStation_13 : decode cX1_isStation 13 = .ok (.iconst 0, 1) := by decide +kernel
theorem dX1_isStation_14 : decode cX1_isStation 14 = .ok (.ireturn, 1) := by decide +kernel
theorem dX1_isChannel_0 : decode cX1_isChannel 0 = .ok (.iload_n 0, 1) := by decide +kernel
theorem dX1_isChannel_1 : decode cX1_isChannel 1 = .ok (.ifCond .lt 13, 3) := by decide +kernel
theorem dX1_isChannel_4 : decode cX1_isChannel 4 = .ok (.iload_n 0, 1) := by decide +kernel
theorem dX1_isChannel_5 : decode cX1_isChannel 5 = .ok (.bipush 8, 2) := by decide +kernel
theorem dX1_isChannel_7 : decode cX1_isChannel 7 = .ok (.if_icmp .ge 7, 3) := by decide +kernel
theorem dX1_isChannel_10 : decode cX1_isChannel 10 = .ok (.iconst 1, 1) := by decide +kernel
theorem dX1_isChannel_11 : decode cX1_isChannel 11 = .ok (.goto 4, 3) := by decide +kernel
theorem dX1_isChannel_14 : decode cX1_isChannel 14 = .ok (.iconst 0, 1) := by decide +kernel
theorem dX1_isChannel_15 : decode cX1_isChannel 15 = .ok (.ireturn, 1) := by decide +kernel
theorem dX1_isWord_0 : decode cX1_isWord 0 = .ok (.iload_n 0, 1) := by decide +kernel
theorem dX1_isWord_1 : decode cX1_isWord 1 = .ok (.ifCond .lt 13, 3) := by decide +kernel
theorem dX1_isWord_4 : decode cX1_isWord 4 = .ok (.iload_n 0, 1) := by decide +kernel
theorem dX1_isWord_5 : decode cX1_isWord 5 = .ok (.ldc 165, 2) := by decide +kernel
theorem dX1_isWord_7 : decode cX1_isWord 7 = .ok (.if_icmp .gt 7, 3) := by decide +kernel
theorem dX1_isWord_10 : decode cX1_isWord 10 = .ok (.iconst 1, 1) := by decide +kernel
theorem dX1_isWord_11 : decode cX1_isWord 11 = .ok (.goto 4, 3) := by decide +kernel
theorem dX1_isWord_14 : decode cX1_isWord 14 = .ok (.iconst 0, 1) := by decide +kernel
theorem dX1_isWord_15 : decode cX1_isWord 15 = .ok (.ireturn, 1) := by decide +kernel
set_option maxRecDepth 20000 in
theorem ggX1_isPair_X1_isStation : GoodIn wsX1_isPair wsX1_isStation := goodIn_r _ [4] (by decide +kernel) (by decide +kernel)
set_option maxRecDepth 20000 in
theorem gX1_isPair_X1_isStation : GoodIn wsX1_isPair (va_wsS RX1 20 yX1_isStation wsX1_isStation) := goodIn_app (goodIn_of _ (by decide +kernel)) ggX1_isPair_X1_isStation
theorem dX1_isPair_0 : decode cX1_isPair 0 = .ok (.iload_n 0, 1) := by decide +kernel
theorem dX1_isPair_1 : decode cX1_isPair 1 = .ok (.invokestatic 20, 3) := by decide +kernel
theorem dX1_isPair_4 : decode cX1_isPair 4 = .ok (.ifCond .eq 19, 3) := by decide +kernel
theorem dX1_isPair_7 : decode cX1_isPair 7 = .ok (.iload_n 1, 1) := by decide +kernel
theorem dX1_isPair_8 : decode cX1_isPair 8 = .ok (.invokestatic 20, 3) := by decide +kernel
theorem dX1_isPair_11 : decode cX1_isPair 11 = .ok (.ifCond .eq 12, 3) := by decide +kernel
theorem dX1_isPair_14 : decode cX1_isPair 14 = .ok (.iload_n 0, 1) := by decide +kernel
theorem dX1_isPair_15 : decode cX1_isPair 15 = .ok (.iload_n 1, 1) := by decide +kernel
theorem dX1_isPair_16 : decode cX1_isPair 16 = .ok (.if_icmp .eq 7, 3) := by decide +kernel
theorem dX1_isPair_19 : decode cX1_isPair 19 = .ok (.iconst 1, 1) := by decide +kernel
theorem dX1_isPair_20 : decode cX1_isPair 20 = .ok (.goto 4, 3) := by decide +kernel
theorem dX1_isPair_23 : decode cX1_isPair 23 = .ok (.iconst 0, 1) := by decide +kernel
theorem dX1_isPair_24 : decode cX1_isPair 24 = .ok (.ireturn, 1) := by decide +kernel
set_option maxRecDepth 20000 in
theorem ggX1_isCell_X1_isPair : GoodIn wsX1_isCell wsX1_isPair := goodIn_r _ [4, 5, 6, 3, 7] (by decide +kernel) (by decide +kernel)
set_option maxRecDepth 20000 in
theorem gX1_isCell_X1_isPair : GoodIn wsX1_isCell (va_wsS RX1 69 yX1_isPair wsX1_isPair) := goodIn_app (goodIn_of _ (by decide +kernel)) ggX1_isCell_X1_isPair
set_option maxRecDepth 20000 in
theorem ggX1_isCell_X1_isChannel : GoodIn wsX1_isCell wsX1_isChannel := goodIn_r _ [10] (by decide +kernel) (by decide +kernel)
set_option maxRecDepth 20000 in
theorem gX1_isCell_X1_isChannel : GoodIn wsX1_isCell (va_wsS RX1 56 yX1_isChannel wsX1_isChannel) := goodIn_app (goodIn_of _ (by decide +kernel)) ggX1_isCell_X1_isChannel
theorem dX1_isCell_0 : decode cX1_isCell 0 = .ok (.iload_n 0, 1) := by decide +kernel
theorem dX1_isCell_1 : decode cX1_isCell 1 = .ok (.iload_n 1, 1) := by decide +kernel
theorem dX1_isCell_2 : decode cX1_isCell 2 = .ok (.invokestatic 69, 3) := by decide +kernel
theorem dX1_isCell_5 : decode cX1_isCell 5 = .ok (.ifCond .eq 14, 3) := by decide +kernel
theorem dX1_isCell_8 : decode cX1_isCell 8 = .ok (.iload_n 2, 1) := by decide +kernel
theorem dX1_isCell_9 : decode cX1_isCell 9 = .ok (.invokestatic 56, 3) := by decide +kernel
theorem dX1_isCell_12 : decode cX1_isCell 12 = .ok (.ifCond .eq 7, 3) := by decide +kernel
theorem dX1_isCell_15 : decode cX1_isCell 15 = .ok (.iconst 1, 1) := by decide +kernel
theorem dX1_isCell_16 : decode cX1_isCell 16 = .ok (.goto 4, 3) := by decide +kernel
theorem dX1_isCell_19 : decode cX1_isCell 19 = .ok (.iconst 0, 1) := by decide +kernel
theorem dX1_isCell_20 : decode cX1_isCell 20 = .ok (.ireturn, 1) := by decide +kernel
set_option maxRecDepth 20000 in
theorem ggX1_isNet_X1_isStation : GoodIn wsX1_isNet wsX1_isStation := goodIn_r _ [4] (by decide +kernel) (by decide +kernel)
set_option maxRecDepth 20000 in
theorem gX1_isNet_X1_isStation : GoodIn wsX1_isNet (va_wsS RX1 20 yX1_isStation wsX1_isStation) := goodIn_app (goodIn_of _ (by decide +kernel)) ggX1_isNet_X1_isStation
set_option maxRecDepth 20000 in
theorem ggX1_isNet_X1_contains : GoodIn wsX1_isNet wsX1_contains := goodIn_r _ [7] (by decide +kernel) (by decide +kernel)
set_option maxRecDepth 20000 in
theorem gX1_isNet_X1_contains : GoodIn wsX1_isNet (va_wsS RX1 166 yX1_contains wsX1_contains) := goodIn_app (goodIn_of _ (by decide +kernel)) ggX1_isNet_X1_contains
theorem dX1_isNet_0 : decode cX1_isNet 0 = .ok (.iload_n 0, 1) := by decide +kernel
theorem dX1_isNet_1 : decode cX1_isNet 1 = .ok (.invokestatic 20, 3) := by decide +kernel
theorem dX1_isNet_4 : decode cX1_isNet 4 = .ok (.ifCond .eq 26, 3) := by decide +kernel
theorem dX1_isNet_7 : decode cX1_isNet 7 = .ok (.iload_n 1, 1) := by decide +kernel
theorem dX1_isNet_8 : decode cX1_isNet 8 = .ok (.iconst 1, 1) := by decide +kernel
theorem dX1_isNet_9 : decode cX1_isNet 9 = .ok (.if_icmp .lt 21, 3) := by decide +kernel
theorem dX1_isNet_12 : decode cX1_isNet 12 = .ok (.iload_n 1, 1) := by decide +kernel
theorem dX1_isNet_13 : decode cX1_isNet 13 = .ok (.bipush 31, 2) := by decide +kernel
theorem dX1_isNet_15 : decode cX1_isNet 15 = .ok (.if_icmp .gt 15, 3) := by decide +kernel
theorem dX1_isNet_18 : decode cX1_isNet 18 = .ok (.iload_n 1, 1) := by decide +kernel
theorem dX1_isNet_19 : decode cX1_isNet 19 = .ok (.iload_n 0, 1) := by decide +kernel
theorem dX1_isNet_20 : decode cX1_isNet 20 = .ok (.invokestatic 166, 3) := by decide +kernel
theorem dX1_isNet_23 : decode cX1_isNet 23 = .ok (.ifCond .ne 7, 3) := by decide +kernel
theorem dX1_isNet_26 : decode cX1_isNet 26 = .ok (.iconst 1, 1) := by decide +kernel
theorem dX1_isNet_27 : decode cX1_isNet 27 = .ok (.goto 4, 3) := by decide +kernel
theorem dX1_isNet_30 : decode cX1_isNet 30 = .ok (.iconst 0, 1) := by decide +kernel
theorem dX1_isNet_31 : decode cX1_isNet 31 = .ok (.ireturn, 1) := by decide +kernel
theorem dX1_contains_0 : decode cX1_contains 0 = .ok (.iload_n 0, 1) := by decide +kernel
theorem dX1_contains_1 : decode cX1_contains 1 = .ok (.iconst 1, 1) := by decide +kernel
theorem dX1_contains_2 : decode cX1_contains 2 = .ok (.iload_n 1, 1) := by decide +kernel
theorem dX1_contains_3 : decode cX1_contains 3 = .ok (.ishl, 1) := by decide +kernel
theorem dX1_contains_4 : decode cX1_contains 4 = .ok (.iand, 1) := by decide +kernel
theorem dX1_contains_5 : decode cX1_contains 5 = .ok (.ifCond .eq 7, 3) := by decide +kernel
theorem dX1_contains_8 : decode cX1_contains 8 = .ok (.iconst 1, 1) := by decide +kernel
theorem dX1_contains_9 : decode cX1_contains 9 = .ok (.goto 4, 3) := by decide +kernel
theorem dX1_contains_12 : decode cX1_contains 12 = .ok (.iconst 0, 1) := by decide +kernel
theorem dX1_contains_13 : decode cX1_contains 13 = .ok (.ireturn, 1) := by decide +kernel
theorem dX1_cell_0 : decode cX1_cell 0 = .ok (.iload_n 0, 1) := by decide +kernel
theorem dX1_cell_1 : decode cX1_cell 1 = .ok (.iconst 5, 1) := by decide +kernel
theorem dX1_cell_2 : decode cX1_cell 2 = .ok (.imul, 1) := by decide +kernel
theorem dX1_cell_3 : decode cX1_cell 3 = .ok (.iload_n 1, 1) := by decide +kernel
theorem dX1_cell_4 : decode cX1_cell 4 = .ok (.iadd, 1) := by decide +kernel
theorem dX1_cell_5 : decode cX1_cell 5 = .ok (.bipush 8, 2) := by decide +kernel
theorem dX1_cell_7 : decode cX1_cell 7 = .ok (.imul, 1) := by decide +kernel
theorem dX1_cell_8 : decode cX1_cell 8 = .ok (.iload_n 2, 1) := by decide +kernel
theorem dX1_cell_9 : decode cX1_cell 9 = .ok (.iadd, 1) := by decide +kernel
theorem dX1_cell_10 : decode cX1_cell 10 = .ok (.ireturn, 1) := by decide +kernel
theorem dX1_majority_0 : decode cX1_majority 0 = .ok (.iload_n 0, 1) := by decide +kernel
theorem dX1_majority_1 : decode cX1_majority 1 = .ok (.iload_n 1, 1) := by decide +kernel
theorem dX1_majority_2 : decode cX1_majority 2 = .ok (.iand, 1) := by decide +kernel
theorem dX1_majority_3 : decode cX1_majority 3 = .ok (.iload_n 0, 1) := by decide +kernel
theorem dX1_majority_4 : decode cX1_majority 4 = .ok (.iload_n 2, 1) := by decide +kernel
theorem dX1_majority_5 : decode cX1_majority 5 = .ok (.iand, 1) := by decide +kernel
theorem dX1_majority_6 : decode cX1_majority 6 = .ok (.ior, 1) := by decide +kernel
theorem dX1_majority_7 : decode cX1_majority 7 = .ok (.iload_n 1, 1) := by decide +kernel
theorem dX1_majority_8 : decode cX1_majority 8 = .ok (.iload_n 2, 1) := by decide +kernel
theorem dX1_majority_9 : decode cX1_majority 9 = .ok (.iand, 1) := by decide +kernel
theorem dX1_majority_10 : decode cX1_majority 10 = .ok (.ior, 1) := by decide +kernel
theorem dX1_majority_11 : decode cX1_majority 11 = .ok (.ireturn, 1) := by decide +kernel
theorem dX1_mix_0 : decode cX1_mix 0 = .ok (.ldc2_w 169, 3) := by decide +kernel
theorem dX1_mix_3 : decode cX1_mix 3 = .ok (.lload_n 0, 1) := by decide +kernel
theorem dX1_mix_4 : decode cX1_mix 4 = .ok (.lmul, 1) := by decide +kernel
theorem dX1_mix_5 : decode cX1_mix 5 = .ok (.lload_n 2, 1) := by decide +kernel
theorem dX1_mix_6 : decode cX1_mix 6 = .ok (.ladd, 1) := by decide +kernel
theorem dX1_mix_7 : decode cX1_mix 7 = .ok (.lreturn, 1) := by decide +kernel
end
section
theorem dX2_init_0 : decode cX2_init 0 = .ok (.aload_n 0, 1) := by decide +kernel
theorem dX2_init_1 : decode cX2_init 1 = .ok (.invokespecial 1, 3) := by decide +kernel
theorem dX2_init_4 : decode cX2_init 4 = .ok (.aload_n 0, 1) := by decide +kernel
theorem dX2_init_5 : decode cX2_init 5 = .ok (.sipush 624, 3) := by decide +kernel
theorem dX2_init_8 : decode cX2_init 8 = .ok (.newarray .int, 2) := by decide +kernel
theorem dX2_init_10 : decode cX2_init 10 = .ok (.putfield 7, 3) := by decide +kernel
theorem dX2_init_13 : decode cX2_init 13 = .ok (.aload_n 0, 1) := by decide +kernel
theorem dX2_init_14 : decode cX2_init 14 = .ok (.sipush 2496, 3) := by decide +kernel
theorem dX2_init_17 : decode cX2_init 17 = .ok (.newarray .int, 2) := by decide +kernel
theorem dX2_init_19 : decode cX2_init 19 = .ok (.putfield 13, 3) := by decide +kernel
theorem dX2_init_22 : decode cX2_init 22 = .ok (.aload_n 0, 1) := by decide +kernel
theorem dX2_init_23 : decode cX2_init 23 = .ok (.iconst 2, 1) := by decide +kernel
theorem dX2_init_24 : decode cX2_init 24 = .ok (.newarray .int, 2) := by decide +kernel
theorem dX2_init_26 : decode cX2_init 26 = .ok (.putfield 16, 3) := by decide +kernel
theorem dX2_init_29 : decode cX2_init 29 = .ok (.aload_n 0, 1) := by decide +kernel
theorem dX2_init_30 : decode cX2_init 30 = .ok (.bipush 8, 2) := by decide +kernel
theorem dX2_init_32 : decode cX2_init 32 = .ok (.newarray .int, 2) := by decide +kernel
theorem dX2_init_34 : decode cX2_init 34 = .ok (.putfield 19, 3) := by decide +kernel
theorem dX2_init_37 : decode cX2_init 37 = .ok (.aload_n 0, 1) := by decide +kernel
theorem dX2_init_38 : decode cX2_init 38 = .ok (.bipush 8, 2) := by decide +kernel
theorem dX2_init_40 : decode cX2_init 40 = .ok (.newarray .int, 2) := by decide +kernel
theorem dX2_init_42 : decode cX2_init 42 = .ok (.putfield 22, 3) := by decide +kernel
theorem dX2_init_45 : decode cX2_init 45 = .ok (.aload_n 0, 1) := by decide +kernel
theorem dX2_init_46 : decode cX2_init 46 = .ok (.getfield 7, 3) := by decide +kernel
theorem dX2_init_49 : decode cX2_init 49 = .ok (.iconst 1, 1) := by decide +kernel
theorem dX2_init_50 : decode cX2_init 50 = .ok (.iconst 1, 1) := by decide +kernel
theorem dX2_init_51 : decode cX2_init 51 = .ok (.iastore, 1) := by decide +kernel
theorem dX2_init_52 : decode cX2_init 52 = .ok (.aload_n 0, 1) := by decide +kernel
theorem dX2_init_53 : decode cX2_init 53 = .ok (.getfield 7, 3) := by decide +kernel
theorem dX2_init_56 : decode cX2_init 56 = .ok (.iconst 2, 1) := by decide +kernel
theorem dX2_init_57 : decode cX2_init 57 = .ok (.bipush 10, 2) := by decide +kernel
theorem dX2_init_59 : decode cX2_init 59 = .ok (.iastore, 1) := by decide +kernel
theorem dX2_init_60 : decode cX2_init 60 = .ok (.aload_n 0, 1) := by decide +kernel
theorem dX2_init_61 : decode cX2_init 61 = .ok (.getfield 7, 3) := by decide +kernel
theorem dX2_init_64 : decode cX2_init 64 = .ok (.bipush 6, 2) := by decide +kernel
theorem dX2_init_66 : decode cX2_init 66 = .ok (.iconst (-1), 1) := by decide +kernel
theorem dX2_init_67 : decode cX2_init 67 = .ok (.iastore, 1) := by decide +kernel
theorem dX2_init_68 : decode cX2_init 68 = .ok (.aload_n 0, 1) := by decide +kernel
theorem dX2_init_69 : decode cX2_init 69 = .ok (.getfield 7, 3) := by decide +kernel
theorem dX2_init_72 : decode cX2_init 72 = .ok (.bipush 7, 2) := by decide +kernel
theorem dX2_init_74 : decode cX2_init 74 = .ok (.iconst (-1), 1) := by decide +kernel
theorem dX2_init_75 : decode cX2_init 75 = .ok (.iastore, 1) := by decide +kernel
theorem dX2_init_76 : decode cX2_init 76 = .ok (.aload_n 0, 1) := by decide +kernel
theorem dX2_init_77 : decode cX2_init 77 = .ok (.getfield 7, 3) := by decide +kernel
theorem dX2_init_80 : decode cX2_init 80 = .ok (.bipush 8, 2) := by decide +kernel
theorem dX2_init_82 : decode cX2_init 82 = .ok (.iconst (-1), 1) := by decide +kernel
theorem dX2_init_83 : decode cX2_init 83 = .ok (.iastore, 1) := by decide +kernel
theorem dX2_init_84 : decode cX2_init 84 = .ok (.iconst 0, 1) := by decide +kernel
theorem dX2_init_85 : decode cX2_init 85 = .ok (.istore_n 1, 1) := by decide +kernel
theorem dX2_init_86 : decode cX2_init 86 = .ok (.iload_n 1, 1) := by decide +kernel
theorem dX2_init_87 : decode cX2_init 87 = .ok (.iconst 5, 1) := by decide +kernel
theorem dX2_init_88 : decode cX2_init 88 = .ok (.if_icmp .ge 31, 3) := by decide +kernel
theorem dX2_init_91 : decode cX2_init 91 = .ok (.aload_n 0, 1) := by decide +kernel
theorem dX2_init_92 : decode cX2_init 92 = .ok (.getfield 7, 3) := by decide +kernel
theorem dX2_init_95 : decode cX2_init 95 = .ok (.bipush 9, 2) := by decide +kernel
theorem dX2_init_97 : decode cX2_init 97 = .ok (.iload_n 1, 1) := by decide +kernel
theorem dX2_init_98 : decode cX2_init 98 = .ok (.iadd, 1) := by decide +kernel
theorem dX2_init_99 : decode cX2_init 99 = .ok (.sipush 255, 3) := by decide +kernel
theorem dX2_init_102 : decode cX2_init 102 = .ok (.iastore, 1) := by decide +kernel
theorem dX2_init_103 : decode cX2_init 103 = .ok (.aload_n 0, 1) := by decide +kernel
theorem dX2_init_104 : decode cX2_init 104 = .ok (.getfield 7, 3) := by decide +kernel
theorem dX2_init_107 : decode cX2_init 107 = .ok (.bipush 19, 2) := by decide +kernel
theorem dX2_init_109 : decode cX2_init 109 = .ok (.iload_n 1, 1) := by decide +kernel
theorem dX2_init_110 : decode cX2_init 110 = .ok (.iadd, 1) := by decide +kernel
theorem dX2_init_111 : decode cX2_init 111 = .ok (.iconst (-1), 1) := by decide +kernel
theorem dX2_init_112 : decode cX2_init 112 = .ok (.iastore, 1) := by decide +kernel
theorem dX2_init_113 : decode cX2_init 113 = .ok (.iinc 1 1, 3) := by decide +kernel
theorem dX2_init_116 : decode cX2_init 116 = .ok (.goto (-30), 3) := by decide +kernel
theorem dX2_init_119 : decode cX2_init 119 = .ok (.iconst 0, 1) := by decide +kernel
theorem dX2_init_120 : decode cX2_init 120 = .ok (.istore_n 1, 1) := by decide +kernel
theorem dX2_init_121 : decode cX2_init 121 = .ok (.iload_n 1, 1) := by decide +kernel
theorem dX2_init_122 : decode cX2_init 122 = .ok (.sipush 200, 3) := by decide +kernel
theorem dX2_init_125 : decode cX2_init 125 = .ok (.if_icmp .ge 31, 3) := by decide +kernel
theorem dX2_init_128 : decode cX2_init 128 = .ok (.aload_n 0, 1) := by decide +kernel
theorem dX2_init_129 : decode cX2_init 129 = .ok (.getfield 7, 3) := by decide +kernel
theorem dX2_init_132 : decode cX2_init 132 = .ok (.bipush 24, 2) := by decide +kernel
theorem dX2_init_134 : decode cX2_init 134 = .ok (.iload_n 1, 1) := by decide +kernel
theorem dX2_init_135 : decode cX2_init 135 = .ok (.iadd, 1) := by decide +kernel
theorem dX2_init_136 : decode cX2_init 136 = .ok (.bipush 15, 2) := by decide +kernel
theorem dX2_init_138 : decode cX2_init 138 = .ok (.iastore, 1) := by decide +kernel
theorem dX2_init_139 : decode cX2_init 139 = .ok (.aload_n 0, 1) := by decide +kernel
theorem dX2_init_140 : decode cX2_init 140 = .ok (.getfield 7, 3) := by decide +kernel
theorem dX2_init_143 : decode cX2_init 143 = .ok (.sipush 224, 3) := by decide +kernel
theorem dX2_init_146 : decode cX2_init 146 = .ok (.iload_n 1, 1) := by decide +kernel
theorem dX2_init_147 : decode cX2_init 147 = .ok (.iadd, 1) := by decide +kernel
theorem dX2_init_148 : decode cX2_init 148 = .ok (.iconst (-1), 1) := by decide +kernel
theorem dX2_init_149 : decode cX2_init 149 = .ok (.iastore, 1) := by decide +kernel
theorem dX2_init_150 : decode cX2_init 150 = .ok (.iinc 1 1, 3) := by decide +kernel
theorem dX2_init_153 : decode cX2_init 153 = .ok (.goto (-32), 3) := by decide +kernel
theorem dX2_init_156 : decode cX2_init 156 = .ok (.return_, 1) := by decide +kernel
theorem dX2_in_0 : decode cX2_in 0 = .ok (.iload_n 0, 1) := by decide +kernel
theorem dX2_in_1 : decode cX2_in 1 = .ok (.iload_n 1, 1) := by decide +kernel
theorem dX2_in_2 : decode cX2_in 2 = .ok (.if_icmp .lt 12, 3) := by decide +kernel
theorem dX2_in_5 : decode cX2_in 5 = .ok (.iload_n 0, 1) := by decide +kernel
theorem dX2_in_6 : decode cX2_in 6 = .ok (.iload_n 2, 1) := by decide +kernel
theorem dX2_in_7 : decode cX2_in 7 = .ok (.if_icmp .gt 7, 3) := by decide +kernel
theorem dX2_in_10 : decode cX2_in 10 = .ok (.iconst 1, 1) := by decide +kernel
theorem dX2_in_11 : decode cX2_in 11 = .ok (.goto 4, 3) := by decide +kernel
theorem dX2_in_14 : decode cX2_in 14 = .ok (.iconst 0, 1) := by decide +kernel
theorem dX2_in_15 : decode cX2_in 15 = .ok (.ireturn, 1) := by decide +kernel
theorem dX2_has_0 : decode cX2_has 0 = .ok (.iload_n 0, 1) := by decide +kernel
theorem dX2_has_1 : decode cX2_has 1 = .ok (.iload_n 1, 1) := by decide +kernel
theorem dX2_has_2 : decode cX2_has 2 = .ok (.ishr, 1) := by decide +kernel
theorem dX2_has_3 : decode cX2_has 3 = .ok (.iconst 1, 1) := by decide +kernel
theorem dX2_has_4 : decode cX2_has 4 = .ok (.iand, 1) := by decide +kernel
theorem dX2_has_5 : decode cX2_has 5 = .ok (.iconst 1, 1) := by decide +kernel
theorem dX2_has_6 : decode cX2_has 6 = .ok (.if_icmp .ne 7, 3) := by decide +kernel
theorem dX2_has_9 : decode cX2_has 9 = .ok (.iconst 1, 1) := by decide +kernel
theorem dX2_has_10 : decode cX2_has 10 = .ok (.goto 4, 3) := by decide +kernel
theorem dX2_has_13 : decode cX2_has 13 = .ok (.iconst 0, 1) := by decide +kernel
theorem dX2_has_14 : decode cX2_has 14 = .ok (.ireturn, 1) := by decide +kernel
theorem dX2_fail_0 : decode cX2_fail 0 = .ok (.aload_n 0, 1) := by decide +kernel
theorem dX2_fail_1 : decode cX2_fail 1 = .ok (.getfield 16, 3) := by decide +kernel
theorem dX2_fail_4 : decode cX2_fail 4 = .ok (.bipush (-2), 2) := by decide +kernel
theorem dX2_fail_6 : decode cX2_fail 6 = .ok (.iload_n 1, 1) := by decide +kernel
theorem dX2_fail_7 : decode cX2_fail 7 = .ok (.isub, 1) := by decide +kernel
theorem dX2_fail_8 : decode cX2_fail 8 = .ok (.dup2, 1) := by decide +kernel
theorem dX2_fail_9 : decode cX2_fail 9 = .ok (.iaload, 1) := by decide +kernel
theorem dX2_fail_10 : decode cX2_fail 10 = .ok (.iconst 1, 1) := by decide +kernel
theorem dX2_fail_11 : decode cX2_fail 11 = .ok (.iadd, 1) := by decide +kernel
theorem dX2_fail_12 : decode cX2_fail 12 = .ok (.iastore, 1) := by decide +kernel
theorem dX2_fail_13 : decode cX2_fail 13 = .ok (.iload_n 1, 1) := by decide +kernel
theorem dX2_fail_14 : decode cX2_fail 14 = .ok (.ireturn, 1) := by decide +kernel
theorem dX2_note_0 : decode cX2_note 0 = .ok (.aload_n 0, 1) := by decide +kernel
theorem dX2_note_1 : decode cX2_note 1 = .ok (.getfield 25, 3) := by decide +kernel
theorem dX2_note_4 : decode cX2_note 4 = .ok (.iconst 4, 1) := by decide +kernel
theorem dX2_note_5 : decode cX2_note 5 = .ok (.if_icmp .ne 44, 3) := by decide +kernel
theorem dX2_note_8 : decode cX2_note 8 = .ok (.iconst 0, 1) := by decide +kernel
theorem dX2_note_9 : decode cX2_note 9 = .ok (.istore_n 1, 1) := by decide +kernel
theorem dX2_note_10 : decode cX2_note 10 = .ok (.iload_n 1, 1) := by decide +kernel
theorem dX2_note_11 : decode cX2_note 11 = .ok (.sipush 1872, 3) := by decide +kernel
theorem dX2_note_14 : decode cX2_note 14 = .ok (.if_icmp .ge 25, 3) := by decide +kernel
theorem dX2_note_17 : decode cX2_note 17 = .ok (.aload_n 0, 1) := by decide +kernel
theorem dX2_note_18 : decode cX2_note 18 = .ok (.getfield 13, 3) := by decide +kernel
theorem dX2_note_21 : decode cX2_note 21 = .ok (.iload_n 1, 1) := by decide +kernel
theorem dX2_note_22 : decode cX2_note 22 = .ok (.aload_n 0, 1) := by decide +kernel
theorem dX2_note_23 : decode cX2_note 23 = .ok (.getfield 13, 3) := by decide +kernel
theorem dX2_note_26 : decode cX2_note 26 = .ok (.iload_n 1, 1) := by decide +kernel
theorem dX2_note_27 : decode cX2_note 27 = .ok (.sipush 624, 3) := by decide +kernel
theorem dX2_note_30 : decode cX2_note 30 = .ok (.iadd, 1) := by decide +kernel
theorem dX2_note_31 : decode cX2_note 31 = .ok (.iaload, 1) := by decide +kernel
theorem dX2_note_32 : decode cX2_note 32 = .ok (.iastore, 1) := by decide +kernel
theorem dX2_note_33 : decode cX2_note 33 = .ok (.iinc 1 1, 3) := by decide +kernel
theorem dX2_note_36 : decode cX2_note 36 = .ok (.goto (-26), 3) := by decide +kernel
theorem dX2_note_39 : decode cX2_note 39 = .ok (.aload_n 0, 1) := by decide +kernel
theorem dX2_note_40 : decode cX2_note 40 = .ok (.dup, 1) := by decide +kernel
theorem dX2_note_41 : decode cX2_note 41 = .ok (.getfield 25, 3) := by decide +kernel
theorem dX2_note_44 : decode cX2_note 44 = .ok (.iconst 1, 1) := by decide +kernel
theorem dX2_note_45 : decode cX2_note 45 = .ok (.isub, 1) := by decide +kernel
theorem dX2_note_46 : decode cX2_note 46 = .ok (.putfield 25, 3) := by decide +kernel
theorem dX2_note_49 : decode cX2_note 49 = .ok (.iconst 0, 1) := by decide +kernel
theorem dX2_note_50 : decode cX2_note 50 = .ok (.istore_n 1, 1) := by decide +kernel
theorem dX2_note_51 : decode cX2_note 51 = .ok (.iload_n 1, 1) := by decide +kernel
theorem dX2_note_52 : decode cX2_note 52 = .ok (.sipush 624, 3) := by decide +kernel
theorem dX2_note_55 : decode cX2_note 55 = .ok (.if_icmp .ge 30, 3) := by decide +kernel
theorem dX2_note_58 : decode cX2_note 58 = .ok (.aload_n 0, 1) := by decide +kernel
theorem dX2_note_59 : decode cX2_note 59 = .ok (.getfield 13, 3) := by decide +kernel
theorem dX2_note_62 : decode cX2_note 62 = .ok (.sipush 624, 3) := by decide +kernel
theorem dX2_note_65 : decode cX2_note 65 = .ok (.aload_n 0, 1) := by decide +kernel
theorem dX2_note_66 : decode cX2_note 66 = .ok (.getfield 25, 3) := by decide +kernel
theorem dX2_note_69 : decode cX2_note 69 = .ok (.imul, 1) := by decide +kernel
theorem dX2_note_70 : decode cX2_note 70 = .ok (.iload_n 1, 1) := by decide +kernel
theorem dX2_note_71 : decode cX2_note 71 = .ok (.iadd, 1) := by decide +kernel
theorem dX2_note_72 : decode cX2_note 72 = .ok (.aload_n 0, 1) := by decide +kernel
theorem dX2_note_73 : decode cX2_note 73 = .ok (.getfield 7, 3) := by decide +kernel
theorem dX2_note_76 : decode cX2_note 76 = .ok (.iload_n 1, 1) := by decide +kernel
theorem dX2_note_77 : decode cX2_note 77 = .ok (.iaload, 1) := by decide +kernel
theorem dX2_note_78 : decode cX2_note 78 = .ok (.iastore, 1) := by decide +kernel
theorem dX2_note_79 : decode cX2_note 79 = .ok (.iinc 1 1, 3) := by decide +kernel
theorem dX2_note_82 : decode cX2_note 82 = .ok (.goto (-31), 3) := by decide +kernel
theorem dX2_note_85 : decode cX2_note 85 = .ok (.aload_n 0, 1) := by decide +kernel
theorem dX2_note_86 : decode cX2_note 86 = .ok (.dup, 1) := by decide +kernel
theorem dX2_note_87 : decode cX2_note 87 = .ok (.getfield 25, 3) := by decide +kernel
theorem dX2_note_90 : decode cX2_note 90 = .ok (.iconst 1, 1) := by decide +kernel
theorem dX2_note_91 : decode cX2_note 91 = .ok (.iadd, 1) := by decide +kernel
theorem dX2_note_92 : decode cX2_note 92 = .ok (.putfield 25, 3) := by decide +kernel
theorem dX2_note_95 : decode cX2_note 95 = .ok (.return_, 1) := by decide +kernel
set_option maxRecDepth 20000 in
theorem ggX2_undo_X2_fail : GoodIn wsX2_undo wsX2_fail := goodIn_r _ [8, 9, 10, 11, 12, 13, 14, 15, 16] (by decide +kernel) (by decide +kernel)
set_option maxRecDepth 20000 in
theorem gX2_undo_X2_fail : GoodIn wsX2_undo (wsV RX2 29 RX2 yX2_fail wsX2_fail) := goodIn_app (goodIn_of _ (by decide +kernel)) ggX2_undo_X2_fail
theorem dX2_undo_0 : decode cX2_undo 0 = .ok (.aload_n 0, 1) := by decide +kernel
theorem dX2_undo_1 : decode cX2_undo 1 = .ok (.getfield 25, 3) := by decide +kernel
theorem dX2_undo_4 : decode cX2_undo 4 = .ok (.ifCond .ne 10, 3) := by decide +kernel
theorem dX2_undo_7 : decode cX2_undo 7 = .ok (.aload_n 0, 1) := by decide +kernel
theorem dX2_undo_8 : decode cX2_undo 8 = .ok (.bipush (-3), 2) := by decide +kernel
theorem dX2_undo_10 : decode cX2_undo 10 = .ok (.invokevirtual 29, 3) := by decide +kernel
theorem dX2_undo_13 : decode cX2_undo 13 = .ok (.ireturn, 1) := by decide +kernel
theorem dX2_undo_14 : decode cX2_undo 14 = .ok (.aload_n 0, 1) := by decide +kernel
theorem dX2_undo_15 : decode cX2_undo 15 = .ok (.dup, 1) := by decide +kernel
theorem dX2_undo_16 : decode cX2_undo 16 = .ok (.getfield 25, 3) := by decide +kernel
theorem dX2_undo_19 : decode cX2_undo 19 = .ok (.iconst 1, 1) := by decide +kernel
theorem dX2_undo_20 : decode cX2_undo 20 = .ok (.isub, 1) := by decide +kernel
theorem dX2_undo_21 : decode cX2_undo 21 = .ok (.putfield 25, 3) := by decide +kernel
theorem dX2_undo_24 : decode cX2_undo 24 = .ok (.iconst 0, 1) := by decide +kernel
theorem dX2_undo_25 : decode cX2_undo 25 = .ok (.istore_n 1, 1) := by decide +kernel
theorem dX2_undo_26 : decode cX2_undo 26 = .ok (.iload_n 1, 1) := by decide +kernel
theorem dX2_undo_27 : decode cX2_undo 27 = .ok (.sipush 624, 3) := by decide +kernel
theorem dX2_undo_30 : decode cX2_undo 30 = .ok (.if_icmp .ge 30, 3) := by decide +kernel
theorem dX2_undo_33 : decode cX2_undo 33 = .ok (.aload_n 0, 1) := by decide +kernel
theorem dX2_undo_34 : decode cX2_undo 34 = .ok (.getfield 7, 3) := by decide +kernel
theorem dX2_undo_37 : decode cX2_undo 37 = .ok (.iload_n 1, 1) := by decide +kernel
theorem dX2_undo_38 : decode cX2_undo 38 = .ok (.aload_n 0, 1) := by decide +kernel
theorem dX2_undo_39 : decode cX2_undo 39 = .ok (.getfield 13, 3) := by decide +kernel
theorem dX2_undo_42 : decode cX2_undo 42 = .ok (.sipush 624, 3) := by decide +kernel
theorem dX2_undo_45 : decode cX2_undo 45 = .ok (.aload_n 0, 1) := by decide +kernel
theorem dX2_undo_46 : decode cX2_undo 46 = .ok (.getfield 25, 3) := by decide +kernel
theorem dX2_undo_49 : decode cX2_undo 49 = .ok (.imul, 1) := by decide +kernel
theorem dX2_undo_50 : decode cX2_undo 50 = .ok (.iload_n 1, 1) := by decide +kernel
theorem dX2_undo_51 : decode cX2_undo 51 = .ok (.iadd, 1) := by decide +kernel
theorem dX2_undo_52 : decode cX2_undo 52 = .ok (.iaload, 1) := by decide +kernel
theorem dX2_undo_53 : decode cX2_undo 53 = .ok (.iastore, 1) := by decide +kernel
theorem dX2_undo_54 : decode cX2_undo 54 = .ok (.iinc 1 1, 3) := by decide +kernel
theorem dX2_undo_57 : decode cX2_undo 57 = .ok (.goto (-31), 3) := by decide +kernel
theorem dX2_undo_60 : decode cX2_undo 60 = .ok (.aload_n 0, 1) := by decide +kernel
theorem dX2_undo_61 : decode cX2_undo 61 = .ok (.getfield 25, 3) := by decide +kernel
theorem dX2_undo_64 : decode cX2_undo 64 = .ok (.ireturn, 1) := by decide +kernel
set_option maxRecDepth 20000 in
theorem ggX2_isStation_X2_in : GoodIn wsX2_isStation wsX2_in := goodIn_r _ [4] (by decide +kernel) (by decide +kernel)
set_option maxRecDepth 20000 in
theorem gX2_isStation_X2_in : GoodIn wsX2_isStation (va_wsS RX2 33 yX2_in wsX2_in) := goodIn_app (goodIn_of _ (by decide +kernel)) ggX2_isStation_X2_in
theorem dX2_isStation_0 : decode cX2_isStation 0 = .ok (.iload_n 0, 1) := by decide +kernel
theorem dX2_isStation_1 : decode cX2_isStation 1 = .ok (.iconst 0, 1) := by decide +kernel
theorem dX2_isStation_2 : decode cX2_isStation 2 = .ok (.iconst 4, 1) := by decide +kernel
theorem dX2_isStation_3 : decode cX2_isStation 3 = .ok (.invokestatic 33, 3) := by decide +kernel
theorem dX2_isStation_6 : decode cX2_isStation 6 = .ok (.ireturn, 1) := by decide +kernel
set_option maxRecDepth 20000 in
theorem ggX2_isChannel_X2_in : GoodIn wsX2_isChannel wsX2_in := goodIn_r _ [4] (by decide +kernel) (by decide +kernel)
set_option maxRecDepth 20000 in
theorem gX2_isChannel_X2_in : GoodIn wsX2_isChannel (va_wsS RX2 33 yX2_in wsX2_in) := goodIn_app (goodIn_of _ (by decide +kernel)) ggX2_isChannel_X2_in
theorem dX2_isChannel_0 : decode cX2_isChannel 0 = .ok (.iload_n 0, 1) := by decide +kernel
theorem dX2_isChannel_1 : decode cX2_isChannel 1 = .ok (.iconst 0, 1) := by decide +kernel
theorem dX2_isChannel_2 : decode cX2_isChannel 2 = .ok (.bipush 7, 2) := by decide +kernel
theorem dX2_isChannel_4 : decode cX2_isChannel 4 = .ok (.invokestatic 33, 3) := by decide +kernel
theorem dX2_isChannel_7 : decode cX2_isChannel 7 = .ok (.ireturn, 1) := by decide +kernel
set_option maxRecDepth 20000 in
theorem ggX2_arePair_X2_isStation : GoodIn wsX2_arePair wsX2_isStation := goodIn_r _ [4, 5, 6, 3, 7] (by decide +kernel) (by decide +kernel)
set_option maxRecDepth 20000 in
theorem gX2_arePair_X2_isStation : GoodIn wsX2_arePair (va_wsS RX2 37 yX2_isStation wsX2_isStation) := goodIn_app (goodIn_of _ (by decide +kernel)) ggX2_arePair_X2_isStation
theorem dX2_arePair_0 : decode cX2_arePair 0 = .ok (.iload_n 0, 1) := by decide +kernel
theorem dX2_arePair_1 : decode cX2_arePair 1 = .ok (.invokestatic 37, 3) := by decide +kernel
theorem dX2_arePair_4 : decode cX2_arePair 4 = .ok (.ifCond .eq 19, 3) := by decide +kernel
theorem dX2_arePair_7 : decode cX2_arePair 7 = .ok (.iload_n 1, 1) := by decide +kernel
theorem dX2_arePair_8 : decode cX2_arePair 8 = .ok (.invokestatic 37, 3) := by decide +kernel
theorem dX2_arePair_11 : decode cX2_arePair 11 = .ok (.ifCond .eq 12, 3) := by decide +kernel
theorem dX2_arePair_14 : decode cX2_arePair 14 = .ok (.iload_n 0, 1) := by decide +kernel
theorem dX2_arePair_15 : decode cX2_arePair 15 = .ok (.iload_n 1, 1) := by decide +kernel
theorem dX2_arePair_16 : decode cX2_arePair 16 = .ok (.if_icmp .eq 7, 3) := by decide +kernel
theorem dX2_arePair_19 : decode cX2_arePair 19 = .ok (.iconst 1, 1) := by decide +kernel
theorem dX2_arePair_20 : decode cX2_arePair 20 = .ok (.goto 4, 3) := by decide +kernel
theorem dX2_arePair_23 : decode cX2_arePair 23 = .ok (.iconst 0, 1) := by decide +kernel
theorem dX2_arePair_24 : decode cX2_arePair 24 = .ok (.ireturn, 1) := by decide +kernel
theorem dX2_at_0 : decode cX2_at 0 = .ok (.bipush 40, 2) := by decide +kernel
theorem dX2_at_2 : decode cX2_at 2 = .ok (.iload_n 0, 1) := by decide +kernel
theorem dX2_at_3 : decode cX2_at 3 = .ok (.imul, 1) := by decide +kernel
theorem dX2_at_4 : decode cX2_at 4 = .ok (.bipush 8, 2) := by decide +kernel
theorem dX2_at_6 : decode cX2_at 6 = .ok (.iload_n 1, 1) := by decide +kernel
theorem dX2_at_7 : decode cX2_at 7 = .ok (.imul, 1) := by decide +kernel
theorem dX2_at_8 : decode cX2_at 8 = .ok (.iadd, 1) := by decide +kernel
theorem dX2_at_9 : decode cX2_at 9 = .ok (.iload_n 2, 1) := by decide +kernel
theorem dX2_at_10 : decode cX2_at 10 = .ok (.iadd, 1) := by decide +kernel
theorem dX2_at_11 : decode cX2_at 11 = .ok (.ireturn, 1) := by decide +kernel
theorem dX2_isLinked_0 : decode cX2_isLinked 0 = .ok (.aload_n 0, 1) := by decide +kernel
theorem dX2_isLinked_1 : decode cX2_isLinked 1 = .ok (.getfield 7, 3) := by decide +kernel
theorem dX2_isLinked_4 : decode cX2_isLinked 4 = .ok (.bipush 14, 2) := by decide +kernel
theorem dX2_isLinked_6 : decode cX2_isLinked 6 = .ok (.iload_n 1, 1) := by decide +kernel
theorem dX2_isLinked_7 : decode cX2_isLinked 7 = .ok (.iadd, 1) := by decide +kernel
theorem dX2_isLinked_8 : decode cX2_isLinked 8 = .ok (.iaload, 1) := by decide +kernel
theorem dX2_isLinked_9 : decode cX2_isLinked 9 = .ok (.ifCond .eq 7, 3) := by decide +kernel
theorem dX2_isLinked_12 : decode cX2_isLinked 12 = .ok (.iconst 1, 1) := by decide +kernel
theorem dX2_isLinked_13 : decode cX2_isLinked 13 = .ok (.goto 4, 3) := by decide +kernel
theorem dX2_isLinked_16 : decode cX2_isLinked 16 = .ok (.iconst 0, 1) := by decide +kernel
theorem dX2_isLinked_17 : decode cX2_isLinked 17 = .ok (.ireturn, 1) := by decide +kernel
theorem dX2_count_0 : decode cX2_count 0 = .ok (.iconst 0, 1) := by decide +kernel
theorem dX2_count_1 : decode cX2_count 1 = .ok (.istore_n 1, 1) := by decide +kernel
theorem dX2_count_2 : decode cX2_count 2 = .ok (.iconst 0, 1) := by decide +kernel
theorem dX2_count_3 : decode cX2_count 3 = .ok (.istore_n 2, 1) := by decide +kernel
theorem dX2_count_4 : decode cX2_count 4 = .ok (.iload_n 2, 1) := by decide +kernel
theorem dX2_count_5 : decode cX2_count 5 = .ok (.bipush 8, 2) := by decide +kernel
theorem dX2_count_7 : decode cX2_count 7 = .ok (.if_icmp .ge 17, 3) := by decide +kernel
theorem dX2_count_10 : decode cX2_count 10 = .ok (.iload_n 1, 1) := by decide +kernel
theorem dX2_count_11 : decode cX2_count 11 = .ok (.iload_n 0, 1) := by decide +kernel
theorem dX2_count_12 : decode cX2_count 12 = .ok (.iload_n 2, 1) := by decide +kernel
theorem dX2_count_13 : decode cX2_count 13 = .ok (.ishr, 1) := by decide +kernel
theorem dX2_count_14 : decode cX2_count 14 = .ok (.iconst 1, 1) := by decide +kernel
theorem dX2_count_15 : decode cX2_count 15 = .ok (.iand, 1) := by decide +kernel
theorem dX2_count_16 : decode cX2_count 16 = .ok (.iadd, 1) := by decide +kernel
theorem dX2_count_17 : decode cX2_count 17 = .ok (.istore_n 1, 1) := by decide +kernel
theorem dX2_count_18 : decode cX2_count 18 = .ok (.iinc 2 1, 3) := by decide +kernel
theorem dX2_count_21 : decode cX2_count 21 = .ok (.goto (-17), 3) := by decide +kernel
theorem dX2_count_24 : decode cX2_count 24 = .ok (.iload_n 1, 1) := by decide +kernel
theorem dX2_count_25 : decode cX2_count 25 = .ok (.ireturn, 1) := by decide +kernel
set_option maxRecDepth 20000 in
theorem ggX2_setScan_X2_isStation : GoodIn wsX2_setScan wsX2_isStation := goodIn_r _ [5, 6, 7, 4, 8] (by decide +kernel) (by decide +kernel)
set_option maxRecDepth 20000 in
theorem gX2_setScan_X2_isStation : GoodIn wsX2_setScan (va_wsS RX2 37 yX2_isStation wsX2_isStation) := goodIn_app (goodIn_of _ (by decide +kernel)) ggX2_setScan_X2_isStation
set_option maxRecDepth 20000 in
theorem ggX2_setScan_X2_in : GoodIn wsX2_setScan wsX2_in := goodIn_r _ [8] (by decide +kernel) (by decide +kernel)
set_option maxRecDepth 20000 in
theorem gX2_setScan_X2_in : GoodIn wsX2_setScan (va_wsS RX2 33 yX2_in wsX2_in) := goodIn_app (goodIn_of _ (by decide +kernel)) ggX2_setScan_X2_in
set_option maxRecDepth 20000 in
theorem ggX2_setScan_X2_fail : GoodIn wsX2_setScan wsX2_fail := goodIn_r _ [12, 13, 20, 21, 22, 23, 24, 25, 26] (by decide +kernel) (by decide +kernel)
set_option maxRecDepth 20000 in
theorem gX2_setScan_X2_fail : GoodIn wsX2_setScan (wsV RX2 29 RX2 yX2_fail wsX2_fail) := goodIn_app (goodIn_of _ (by decide +kernel)) ggX2_setScan_X2_fail
set_option maxRecDepth 20000 in
theorem ggX2_setScan_X2_note : GoodIn wsX2_setScan wsX2_note := goodIn_r _ [17, 18, 19, 1, 20, 21, 22, 23, 24, 25, 26] (by decide +kernel) (by decide +kernel)
set_option maxRecDepth 20000 in
theorem gX2_setScan_X2_note : GoodIn wsX2_setScan (wsV RX2 41 RX2 yX2_note wsX2_note) := goodIn_app (goodIn_of _ (by decide +kernel)) ggX2_setScan_X2_note
theorem dX2_setScan_0 : decode cX2_setScan 0 = .ok (.iload_n 1, 1) := by decide +kernel
theorem dX2_setScan_1 : decode cX2_setScan 1 = .ok (.invokestatic 37, 3) := by decide +kernel
theorem dX2_setScan_4 : decode cX2_setScan 4 = .ok (.ifCond .eq 14, 3) := by decide +kernel
theorem dX2_setScan_7 : decode cX2_setScan 7 = .ok (.iload_n 2, 1) := by decide +kernel
theorem dX2_setScan_8 : decode cX2_setScan 8 = .ok (.iconst 1, 1) := by decide +kernel
theorem dX2_setScan_9 : decode cX2_setScan 9 = .ok (.sipush 255, 3) := by decide +kernel
theorem dX2_setScan_12 : decode cX2_setScan 12 = .ok (.invokestatic 33, 3) := by decide +kernel
theorem dX2_setScan_15 : decode cX2_setScan 15 = .ok (.ifCond .ne 10, 3) := by decide +kernel
theorem dX2_setScan_18 : decode cX2_setScan 18 = .ok (.aload_n 0, 1) := by decide +kernel
theorem dX2_setScan_19 : decode cX2_setScan 19 = .ok (.bipush (-2), 2) := by decide +kernel
theorem dX2_setScan_21 : decode cX2_setScan 21 = .ok (.invokevirtual 29, 3) := by decide +kernel
theorem dX2_setScan_24 : decode cX2_setScan 24 = .ok (.ireturn, 1) := by decide +kernel
theorem dX2_setScan_25 : decode cX2_setScan 25 = .ok (.aload_n 0, 1) := by decide +kernel
theorem dX2_setScan_26 : decode cX2_setScan 26 = .ok (.invokevirtual 41, 3) := by decide +kernel
theorem dX2_setScan_29 : decode cX2_setScan 29 = .ok (.aload_n 0, 1) := by decide +kernel
theorem dX2_setScan_30 : decode cX2_setScan 30 = .ok (.getfield 7, 3) := by decide +kernel
theorem dX2_setScan_33 : decode cX2_setScan 33 = .ok (.bipush 9, 2) := by decide +kernel
theorem dX2_setScan_35 : decode cX2_setScan 35 = .ok (.iload_n 1, 1) := by decide +kernel
theorem dX2_setScan_36 : decode cX2_setScan 36 = .ok (.iadd, 1) := by decide +kernel
theorem dX2_setScan_37 : decode cX2_setScan 37 = .ok (.iaload, 1) := by decide +kernel
theorem dX2_setScan_38 : decode cX2_setScan 38 = .ok (.istore_n 3, 1) := by decide +kernel
theorem dX2_setScan_39 : decode cX2_setScan 39 = .ok (.aload_n 0, 1) := by decide +kernel
theorem dX2_setScan_40 : decode cX2_setScan 40 = .ok (.getfield 7, 3) := by decide +kernel
theorem dX2_setScan_43 : decode cX2_setScan 43 = .ok (.bipush 9, 2) := by decide +kernel
theorem dX2_setScan_45 : decode cX2_setScan 45 = .ok (.iload_n 1, 1) := by decide +kernel
theorem dX2_setScan_46 : decode cX2_setScan 46 = .ok (.iadd, 1) := by decide +kernel
theorem dX2_setScan_47 : decode cX2_setScan 47 = .ok (.iload_n 2, 1) := by decide +kernel
theorem dX2_setScan_48 : decode cX2_setScan 48 = .ok (.iastore, 1) := by decide +kernel
theorem dX2_setScan_49 : decode cX2_setScan 49 = .ok (.iload_n 3, 1) := by decide +kernel
theorem dX2_setScan_50 : decode cX2_setScan 50 = .ok (.ireturn, 1) := by decide +kernel
set_option maxRecDepth 20000 in
theorem ggX2_setQuality_X2_arePair : GoodIn wsX2_setQuality wsX2_arePair := goodIn_r _ [5, 6, 7, 4, 8, 9, 10, 11] (by decide +kernel) (by decide +kernel)
set_option maxRecDepth 20000 in
theorem gX2_setQuality_X2_arePair : GoodIn wsX2_setQuality (va_wsS RX2 44 yX2_arePair wsX2_arePair) := goodIn_app (goodIn_of _ (by decide +kernel)) ggX2_setQuality_X2_arePair
set_option maxRecDepth 20000 in
theorem ggX2_setQuality_X2_isChannel : GoodIn wsX2_setQuality wsX2_isChannel := goodIn_r _ [14, 9, 10, 4, 11] (by decide +kernel) (by decide +kernel)
set_option maxRecDepth 20000 in
theorem gX2_setQuality_X2_isChannel : GoodIn wsX2_setQuality (va_wsS RX2 48 yX2_isChannel wsX2_isChannel) := goodIn_app (goodIn_of _ (by decide +kernel)) ggX2_setQuality_X2_isChannel
set_option maxRecDepth 20000 in
theorem ggX2_setQuality_X2_in : GoodIn wsX2_setQuality wsX2_in := goodIn_r _ [11] (by decide +kernel) (by decide +kernel)
set_option maxRecDepth 20000 in
theorem gX2_setQuality_X2_in : GoodIn wsX2_setQuality (va_wsS RX2 33 yX2_in wsX2_in) := goodIn_app (goodIn_of _ (by decide +kernel)) ggX2_setQuality_X2_in
set_option maxRecDepth 20000 in
theorem ggX2_setQuality_X2_fail : GoodIn wsX2_setQuality wsX2_fail := goodIn_r _ [18, 19, 29, 30, 31, 32, 33, 34, 35] (by decide +kernel) (by decide +kernel)
set_option maxRecDepth 20000 in
theorem gX2_setQuality_X2_fail : GoodIn wsX2_setQuality (wsV RX2 29 RX2 yX2_fail wsX2_fail) := goodIn_app (goodIn_of _ (by decide +kernel)) ggX2_setQuality_X2_fail
set_option maxRecDepth 20000 in
theorem ggX2_setQuality_X2_note : GoodIn wsX2_setQuality wsX2_note := goodIn_r _ [23, 24, 25, 1, 29, 30, 31, 32, 33, 34, 35] (by decide +kernel) (by decide +kernel)
set_option maxRecDepth 20000 in
theorem gX2_setQuality_X2_note : GoodIn wsX2_setQuality (wsV RX2 41 RX2 yX2_note wsX2_note) := goodIn_app (goodIn_of _ (by decide +kernel)) ggX2_setQuality_X2_note
set_option maxRecDepth 20000 in
theorem ggX2_setQuality_X2_at : GoodIn wsX2_setQuality wsX2_at := goodIn_r _ [28] (by decide +kernel) (by decide +kernel)
set_option maxRecDepth 20000 in
theorem gX2_setQuality_X2_at : GoodIn wsX2_setQuality (va_wsS RX2 51 yX2_at wsX2_at) := goodIn_app (goodIn_of _ (by decide +kernel)) ggX2_setQuality_X2_at
theorem dX2_setQuality_0 : decode cX2_setQuality 0 = .ok (.iload_n 1, 1) := by decide +kernel
theorem dX2_setQuality_1 : decode cX2_setQuality 1 = .ok (.iload_n 2, 1) := by decide +kernel
theorem dX2_setQuality_2 : decode cX2_setQuality 2 = .ok (.invokestatic 44, 3) := by decide +kernel
theorem dX2_setQuality_5 : decode cX2_setQuality 5 = .ok (.ifCond .eq 21, 3) := by decide +kernel
theorem dX2_setQuality_8 : decode cX2_setQuality 8 = .ok (.iload_n 3, 1) := by decide +kernel
theorem dX2_setQuality_9 : decode cX2_setQuality 9 = .ok (.invokestatic 48, 3) := by decide +kernel
theorem dX2_setQuality_12 : decode cX2_setQuality 12 = .ok (.ifCond .eq 14, 3) := by decide +kernel
theorem dX2_setQuality_15 : decode cX2_setQuality 15 = .ok (.iload 4, 2) := by decide +kernel
theorem dX2_setQuality_17 : decode cX2_setQuality 17 = .ok (.iconst 0, 1) := by decide +kernel
theorem dX2_setQuality_18 : decode cX2_setQuality 18 = .ok (.bipush 30, 2) := by decide +kernel
theorem dX2_setQuality_20 : decode cX2_setQuality 20 = .ok (.invokestatic 33, 3) := by decide +kernel
theorem dX2_setQuality_23 : decode cX2_setQuality 23 = .ok (.ifCond .ne 10, 3) := by decide +kernel
theorem dX2_setQuality_26 : decode cX2_setQuality 26 = .ok (.aload_n 0, 1) := by decide +kernel
theorem dX2_setQuality_27 : decode cX2_setQuality 27 = .ok (.bipush (-2), 2) := by decide +kernel
theorem dX2_setQuality_29 : decode cX2_setQuality 29 = .ok (.invokevirtual 29, 3) := by decide +kernel
theorem dX2_setQuality_32 : decode cX2_setQuality 32 = .ok (.ireturn, 1) := by decide +kernel
theorem dX2_setQuality_33 : decode cX2_setQuality 33 = .ok (.aload_n 0, 1) := by decide +kernel
theorem dX2_setQuality_34 : decode cX2_setQuality 34 = .ok (.invokevirtual 41, 3) := by decide +kernel
theorem dX2_setQuality_37 : decode cX2_setQuality 37 = .ok (.aload_n 0, 1) := by decide +kernel
theorem dX2_setQuality_38 : decode cX2_setQuality 38 = .ok (.getfield 7, 3) := by decide +kernel
theorem dX2_setQuality_41 : decode cX2_setQuality 41 = .ok (.bipush 24, 2) := by decide +kernel
theorem dX2_setQuality_43 : decode cX2_setQuality 43 = .ok (.iload_n 1, 1) := by decide +kernel
theorem dX2_setQuality_44 : decode cX2_setQuality 44 = .ok (.iload_n 2, 1) := by decide +kernel
theorem dX2_setQuality_45 : decode cX2_setQuality 45 = .ok (.iload_n 3, 1) := by decide +kernel
theorem dX2_setQuality_46 : decode cX2_setQuality 46 = .ok (.invokestatic 51, 3) := by decide +kernel
theorem dX2_setQuality_49 : decode cX2_setQuality 49 = .ok (.iadd, 1) := by decide +kernel
theorem dX2_setQuality_50 : decode cX2_setQuality 50 = .ok (.iaload, 1) := by decide +kernel
theorem dX2_setQuality_51 : decode cX2_setQuality 51 = .ok (.istore 5, 2) := by decide +kernel
theorem dX2_setQuality_53 : decode cX2_setQuality 53 = .ok (.aload_n 0, 1) := by decide +kernel
theorem dX2_setQuality_54 : decode cX2_setQuality 54 = .ok (.getfield 7, 3) := by decide +kernel
theorem dX2_setQuality_57 : decode cX2_setQuality 57 = .ok (.bipush 24, 2) := by decide +kernel
theorem dX2_setQuality_59 : decode cX2_setQuality 59 = .ok (.iload_n 1, 1) := by decide +kernel
theorem dX2_setQuality_60 : decode cX2_setQuality 60 = .ok (.iload_n 2, 1) := by decide +kernel
theorem dX2_setQuality_61 : decode cX2_setQuality 61 = .ok (.iload_n 3, 1) := by decide +kernel
theorem dX2_setQuality_62 : decode cX2_setQuality 62 = .ok (.invokestatic 51, 3) := by decide +kernel
theorem dX2_setQuality_65 : decode cX2_setQuality 65 = .ok (.iadd, 1) := by decide +kernel
theorem dX2_setQuality_66 : decode cX2_setQuality 66 = .ok (.iload 4, 2) := by decide +kernel
theorem dX2_setQuality_68 : decode cX2_setQuality 68 = .ok (.iastore, 1) := by decide +kernel
theorem dX2_setQuality_69 : decode cX2_setQuality 69 = .ok (.aload_n 0, 1) := by decide +kernel
theorem dX2_setQuality_70 : decode cX2_setQuality 70 = .ok (.getfield 7, 3) := by decide +kernel
theorem dX2_setQuality_73 : decode cX2_setQuality 73 = .ok (.bipush 24, 2) := by decide +kernel
theorem dX2_setQuality_75 : decode cX2_setQuality 75 = .ok (.iload_n 2, 1) := by decide +kernel
theorem dX2_setQuality_76 : decode cX2_setQuality 76 = .ok (.iload_n 1, 1) := by decide +kernel
theorem dX2_setQuality_77 : decode cX2_setQuality 77 = .ok (.iload_n 3, 1) := by decide +kernel
theorem dX2_setQuality_78 : decode cX2_setQuality 78 = .ok (.invokestatic 51, 3) := by decide +kernel
theorem dX2_setQuality_81 : decode cX2_setQuality 81 = .ok (.iadd, 1) := by decide +kernel
theorem dX2_setQuality_82 : decode cX2_setQuality 82 = .ok (.iload 4, 2) := by decide +kernel
theorem dX2_setQuality_84 : decode cX2_setQuality 84 = .ok (.iastore, 1) := by decide +kernel
theorem dX2_setQuality_85 : decode cX2_setQuality 85 = .ok (.iload 5, 2) := by decide +kernel
theorem dX2_setQuality_87 : decode cX2_setQuality 87 = .ok (.ireturn, 1) := by decide +kernel
set_option maxRecDepth 20000 in
theorem ggX2_setAgeing_X2_in : GoodIn wsX2_setAgeing wsX2_in := goodIn_r _ [5] (by decide +kernel) (by decide +kernel)
set_option maxRecDepth 20000 in
theorem gX2_setAgeing_X2_in : GoodIn wsX2_setAgeing (va_wsS RX2 33 yX2_in wsX2_in) := goodIn_app (goodIn_of _ (by decide +kernel)) ggX2_setAgeing_X2_in
set_option maxRecDepth 20000 in
theorem ggX2_setAgeing_X2_fail : GoodIn wsX2_setAgeing wsX2_fail := goodIn_r _ [9, 10, 17, 18, 19, 20, 21, 22, 23] (by decide +kernel) (by decide +kernel)
set_option maxRecDepth 20000 in
theorem gX2_setAgeing_X2_fail : GoodIn wsX2_setAgeing (wsV RX2 29 RX2 yX2_fail wsX2_fail) := goodIn_app (goodIn_of _ (by decide +kernel)) ggX2_setAgeing_X2_fail
set_option maxRecDepth 20000 in
theorem ggX2_setAgeing_X2_note : GoodIn wsX2_setAgeing wsX2_note := goodIn_r _ [14, 15, 16, 1, 17, 18, 19, 20, 21, 22, 23] (by decide +kernel) (by decide +kernel)
set_option maxRecDepth 20000 in
theorem gX2_setAgeing_X2_note : GoodIn wsX2_setAgeing (wsV RX2 41 RX2 yX2_note wsX2_note) := goodIn_app (goodIn_of _ (by decide +kernel)) ggX2_setAgeing_X2_note
theorem dX2_setAgeing_0 : decode cX2_setAgeing 0 = .ok (.iload_n 1, 1) := by decide +kernel
theorem dX2_setAgeing_1 : decode cX2_setAgeing 1 = .ok (.iconst 1, 1) := by decide +kernel
theorem dX2_setAgeing_2 : decode cX2_setAgeing 2 = .ok (.bipush 99, 2) := by decide +kernel
theorem dX2_setAgeing_4 : decode cX2_setAgeing 4 = .ok (.invokestatic 33, 3) := by decide +kernel
theorem dX2_setAgeing_7 : decode cX2_setAgeing 7 = .ok (.ifCond .ne 10, 3) := by decide +kernel
theorem dX2_setAgeing_10 : decode cX2_setAgeing 10 = .ok (.aload_n 0, 1) := by decide +kernel
theorem dX2_setAgeing_11 : decode cX2_setAgeing 11 = .ok (.bipush (-2), 2) := by decide +kernel
theorem dX2_setAgeing_13 : decode cX2_setAgeing 13 = .ok (.invokevirtual 29, 3) := by decide +kernel
theorem dX2_setAgeing_16 : decode cX2_setAgeing 16 = .ok (.ireturn, 1) := by decide +kernel
theorem dX2_setAgeing_17 : decode cX2_setAgeing 17 = .ok (.aload_n 0, 1) := by decide +kernel
theorem dX2_setAgeing_18 : decode cX2_setAgeing 18 = .ok (.invokevirtual 41, 3) := by decide +kernel
theorem dX2_setAgeing_21 : decode cX2_setAgeing 21 = .ok (.aload_n 0, 1) := by decide +kernel
theorem dX2_setAgeing_22 : decode cX2_setAgeing 22 = .ok (.getfield 7, 3) := by decide +kernel
theorem dX2_setAgeing_25 : decode cX2_setAgeing 25 = .ok (.iconst 2, 1) := by decide +kernel
theorem dX2_setAgeing_26 : decode cX2_setAgeing 26 = .ok (.iaload, 1) := by decide +kernel
theorem dX2_setAgeing_27 : decode cX2_setAgeing 27 = .ok (.istore_n 2, 1) := by decide +kernel
theorem dX2_setAgeing_28 : decode cX2_setAgeing 28 = .ok (.aload_n 0, 1) := by decide +kernel
theorem dX2_setAgeing_29 : decode cX2_setAgeing 29 = .ok (.getfield 7, 3) := by decide +kernel
theorem dX2_setAgeing_32 : decode cX2_setAgeing 32 = .ok (.iconst 2, 1) := by decide +kernel
theorem dX2_setAgeing_33 : decode cX2_setAgeing 33 = .ok (.iload_n 1, 1) := by decide +kernel
theorem dX2_setAgeing_34 : decode cX2_setAgeing 34 = .ok (.iastore, 1) := by decide +kernel
theorem dX2_setAgeing_35 : decode cX2_setAgeing 35 = .ok (.iload_n 2, 1) := by decide +kernel
theorem dX2_setAgeing_36 : decode cX2_setAgeing 36 = .ok (.ireturn, 1) := by decide +kernel
set_option maxRecDepth 20000 in
theorem ggX2_setNoise_X2_fail : GoodIn wsX2_setNoise wsX2_fail := goodIn_r _ [6, 7, 14, 15, 16, 17, 18, 19, 20] (by decide +kernel) (by decide +kernel)
set_option maxRecDepth 20000 in
theorem gX2_setNoise_X2_fail : GoodIn wsX2_setNoise (wsV RX2 29 RX2 yX2_fail wsX2_fail) := goodIn_app (goodIn_of _ (by decide +kernel)) ggX2_setNoise_X2_fail
set_option maxRecDepth 20000 in
theorem ggX2_setNoise_X2_note : GoodIn wsX2_setNoise wsX2_note := goodIn_r _ [11, 12, 13, 1, 14, 15, 16, 17, 18, 19, 20] (by decide +kernel) (by decide +kernel)
set_option maxRecDepth 20000 in
theorem gX2_setNoise_X2_note : GoodIn wsX2_setNoise (wsV RX2 41 RX2 yX2_note wsX2_note) := goodIn_app (goodIn_of _ (by decide +kernel)) ggX2_setNoise_X2_note
theorem dX2_setNoise_0 : decode cX2_setNoise 0 = .ok (.iload_n 1, 1) := by decide +kernel
theorem dX2_setNoise_1 : decode cX2_setNoise 1 = .ok (.ifCond .ge 10, 3) := by decide +kernel
theorem dX2_setNoise_4 : decode cX2_setNoise 4 = .ok (.aload_n 0, 1) := by decide +kernel
theorem dX2_setNoise_5 : decode cX2_setNoise 5 = .ok (.bipush (-2), 2) := by decide +kernel
theorem dX2_setNoise_7 : decode cX2_setNoise 7 = .ok (.invokevirtual 29, 3) := by decide +kernel
theorem dX2_setNoise_10 : decode cX2_setNoise 10 = .ok (.ireturn, 1) := by decide +kernel
theorem dX2_setNoise_11 : decode cX2_setNoise 11 = .ok (.aload_n 0, 1) := by decide +kernel
theorem dX2_setNoise_12 : decode cX2_setNoise 12 = .ok (.invokevirtual 41, 3) := by decide +kernel
theorem dX2_setNoise_15 : decode cX2_setNoise 15 = .ok (.aload_n 0, 1) := by decide +kernel
theorem dX2_setNoise_16 : decode cX2_setNoise 16 = .ok (.getfield 7, 3) := by decide +kernel
theorem dX2_setNoise_19 : decode cX2_setNoise 19 = .ok (.iconst 1, 1) := by decide +kernel
theorem dX2_setNoise_20 : decode cX2_setNoise 20 = .ok (.iload_n 1, 1) := by decide +kernel
theorem dX2_setNoise_21 : decode cX2_setNoise 21 = .ok (.iastore, 1) := by decide +kernel
theorem dX2_setNoise_22 : decode cX2_setNoise 22 = .ok (.aload_n 0, 1) := by decide +kernel
theorem dX2_setNoise_23 : decode cX2_setNoise 23 = .ok (.getfield 7, 3) := by decide +kernel
theorem dX2_setNoise_26 : decode cX2_setNoise 26 = .ok (.iconst 0, 1) := by decide +kernel
theorem dX2_setNoise_27 : decode cX2_setNoise 27 = .ok (.iaload, 1) := by decide +kernel
theorem dX2_setNoise_28 : decode cX2_setNoise 28 = .ok (.ireturn, 1) := by decide +kernel
set_option maxRecDepth 20000 in
theorem ggX2_pass_X2_in : GoodIn wsX2_pass wsX2_in := goodIn_r _ [5] (by decide +kernel) (by decide +kernel)
set_option maxRecDepth 20000 in
theorem gX2_pass_X2_in : GoodIn wsX2_pass (va_wsS RX2 33 yX2_in wsX2_in) := goodIn_app (goodIn_of _ (by decide +kernel)) ggX2_pass_X2_in
set_option maxRecDepth 20000 in
theorem ggX2_pass_X2_fail : GoodIn wsX2_pass wsX2_fail := goodIn_r _ [9, 10, 17, 18, 19, 20, 21, 22, 23] (by decide +kernel) (by decide +kernel)
set_option maxRecDepth 20000 in
theorem gX2_pass_X2_fail : GoodIn wsX2_pass (wsV RX2 29 RX2 yX2_fail wsX2_fail) := goodIn_app (goodIn_of _ (by decide +kernel)) ggX2_pass_X2_fail
set_option maxRecDepth 20000 in
theorem ggX2_pass_X2_note : GoodIn wsX2_pass wsX2_note := goodIn_r _ [14, 15, 16, 1, 17, 18, 19, 20, 21, 22, 23] (by decide +kernel) (by decide +kernel)
set_option maxRecDepth 20000 in
theorem gX2_pass_X2_note : GoodIn wsX2_pass (wsV RX2 41 RX2 yX2_note wsX2_note) := goodIn_app (goodIn_of _ (by decide +kernel)) ggX2_pass_X2_note
theorem dX2_pass_0 : decode cX2_pass 0 = .ok (.iload_n 1, 1) := by decide +kernel
theorem dX2_pass_1 : decode cX2_pass 1 = .ok (.iconst 1, 1) := by decide +kernel
theorem dX2_pass_2 : decode cX2_pass 2 = .ok (.sipush 1000, 3) := by decide +kernel
theorem dX2_pass_5 : decode cX2_pass 5 = .ok (.invokestatic 33, 3) := by decide +kernel
theorem dX2_pass_8 : decode cX2_pass 8 = .ok (.ifCond .ne 10, 3) := by decide +kernel
theorem dX2_pass_11 : decode cX2_pass 11 = .ok (.aload_n 0, 1) := by decide +kernel
theorem dX2_pass_12 : decode cX2_pass 12 = .ok (.bipush (-2), 2) := by decide +kernel
theorem dX2_pass_14 : decode cX2_pass 14 = .ok (.invokevirtual 29, 3) := by decide +kernel
theorem dX2_pass_17 : decode cX2_pass 17 = .ok (.ireturn, 1) := by decide +kernel
theorem dX2_pass_18 : decode cX2_pass 18 = .ok (.aload_n 0, 1) := by decide +kernel
theorem dX2_pass_19 : decode cX2_pass 19 = .ok (.invokevirtual 41, 3) := by decide +kernel
theorem dX2_pass_22 : decode cX2_pass 22 = .ok (.aload_n 0, 1) := by decide +kernel
theorem dX2_pass_23 : decode cX2_pass 23 = .ok (.getfield 7, 3) := by decide +kernel
theorem dX2_pass_26 : decode cX2_pass 26 = .ok (.iconst 0, 1) := by decide +kernel
theorem dX2_pass_27 : decode cX2_pass 27 = .ok (.dup2, 1) := by decide +kernel
theorem dX2_pass_28 : decode cX2_pass 28 = .ok (.iaload, 1) := by decide +kernel
theorem dX2_pass_29 : decode cX2_pass 29 = .ok (.iload_n 1, 1) := by decide +kernel
theorem dX2_pass_30 : decode cX2_pass 30 = .ok (.iadd, 1) := by decide +kernel
theorem dX2_pass_31 : decode cX2_pass 31 = .ok (.iastore, 1) := by decide +kernel
theorem dX2_pass_32 : decode cX2_pass 32 = .ok (.aload_n 0, 1) := by decide +kernel
theorem dX2_pass_33 : decode cX2_pass 33 = .ok (.getfield 7, 3) := by decide +kernel
theorem dX2_pass_36 : decode cX2_pass 36 = .ok (.iconst 0, 1) := by decide +kernel
theorem dX2_pass_37 : decode cX2_pass 37 = .ok (.iaload, 1) := by decide +kernel
theorem dX2_pass_38 : decode cX2_pass 38 = .ok (.ireturn, 1) := by decide +kernel
theorem dX2_draw_0 : decode cX2_draw 0 = .ok (.aload_n 0, 1) := by decide +kernel
theorem dX2_draw_1 : decode cX2_draw 1 = .ok (.getfield 7, 3) := by decide +kernel
theorem dX2_draw_4 : decode cX2_draw 4 = .ok (.iconst 1, 1) := by decide +kernel
theorem dX2_draw_5 : decode cX2_draw 5 = .ok (.iaload, 1) := by decide +kernel
theorem dX2_draw_6 : decode cX2_draw 6 = .ok (.i2l, 1) := by decide +kernel
theorem dX2_draw_7 : decode cX2_draw 7 = .ok (.ldc2_w 55, 3) := by decide +kernel
theorem dX2_draw_10 : decode cX2_draw 10 = .ok (.lmul, 1) := by decide +kernel
theorem dX2_draw_11 : decode cX2_draw 11 = .ok (.ldc2_w 57, 3) := by decide +kernel
theorem dX2_draw_14 : decode cX2_draw 14 = .ok (.ladd, 1) := by decide +kernel
theorem dX2_draw_15 : decode cX2_draw 15 = .ok (.ldc2_w 59, 3) := by decide +kernel
theorem dX2_draw_18 : decode cX2_draw 18 = .ok (.lrem, 1) := by decide +kernel
theorem dX2_draw_19 : decode cX2_draw 19 = .ok (.lstore_n 1, 1) := by decide +kernel
theorem dX2_draw_20 : decode cX2_draw 20 = .ok (.aload_n 0, 1) := by decide +kernel
theorem dX2_draw_21 : decode cX2_draw 21 = .ok (.getfield 7, 3) := by decide +kernel
theorem dX2_draw_24 : decode cX2_draw 24 = .ok (.iconst 1, 1) := by decide +kernel
theorem dX2_draw_25 : decode cX2_draw 25 = .ok (.lload_n 1, 1) := by decide +kernel
theorem dX2_draw_26 : decode cX2_draw 26 = .ok (.l2i, 1) := by decide +kernel
theorem dX2_draw_27 : decode cX2_draw 27 = .ok (.iastore, 1) := by decide +kernel
theorem dX2_draw_28 : decode cX2_draw 28 = .ok (.aload_n 0, 1) := by decide +kernel
theorem dX2_draw_29 : decode cX2_draw 29 = .ok (.getfield 7, 3) := by decide +kernel
theorem dX2_draw_32 : decode cX2_draw 32 = .ok (.iconst 1, 1) := by decide +kernel
theorem dX2_draw_33 : decode cX2_draw 33 = .ok (.iaload, 1) := by decide +kernel
theorem dX2_draw_34 : decode cX2_draw 34 = .ok (.ldc 61, 2) := by decide +kernel
theorem dX2_draw_36 : decode cX2_draw 36 = .ok (.idiv, 1) := by decide +kernel
theorem dX2_draw_37 : decode cX2_draw 37 = .ok (.bipush 31, 2) := by decide +kernel
theorem dX2_draw_39 : decode cX2_draw 39 = .ok (.irem, 1) := by decide +kernel
theorem dX2_draw_40 : decode cX2_draw 40 = .ok (.ireturn, 1) := by decide +kernel
theorem dX2_majority_0 : decode cX2_majority 0 = .ok (.iload_n 0, 1) := by decide +kernel
theorem dX2_majority_1 : decode cX2_majority 1 = .ok (.iload_n 1, 1) := by decide +kernel
theorem dX2_majority_2 : decode cX2_majority 2 = .ok (.iand, 1) := by decide +kernel
theorem dX2_majority_3 : decode cX2_majority 3 = .ok (.iload_n 0, 1) := by decide +kernel
theorem dX2_majority_4 : decode cX2_majority 4 = .ok (.iload_n 2, 1) := by decide +kernel
theorem dX2_majority_5 : decode cX2_majority 5 = .ok (.iand, 1) := by decide +kernel
theorem dX2_majority_6 : decode cX2_majority 6 = .ok (.ior, 1) := by decide +kernel
theorem dX2_majority_7 : decode cX2_majority 7 = .ok (.iload_n 1, 1) := by decide +kernel
theorem dX2_majority_8 : decode cX2_majority 8 = .ok (.iload_n 2, 1) := by decide +kernel
theorem dX2_majority_9 : decode cX2_majority 9 = .ok (.iand, 1) := by decide +kernel
theorem dX2_majority_10 : decode cX2_majority 10 = .ok (.ior, 1) := by decide +kernel
theorem dX2_majority_11 : decode cX2_majority 11 = .ok (.ireturn, 1) := by decide +kernel
set_option maxRecDepth 20000 in
theorem ggX2_copyOf_X2_draw : GoodIn wsX2_copyOf wsX2_draw := goodIn_r _ [5, 6, 7, 8, 9, 10, 11, 12, 13, 14, 15, 16, 17] (by decide +kernel) (by decide +kernel)
set_option maxRecDepth 20000 in
theorem gX2_copyOf_X2_draw : GoodIn wsX2_copyOf (wsV RX2 62 RX2 yX2_draw wsX2_draw) := goodIn_app (goodIn_of _ (by decide +kernel)) ggX2_copyOf_X2_draw
theorem dX2_copyOf_0 : decode cX2_copyOf 0 = .ok (.iload_n 1, 1) := by decide +kernel
theorem dX2_copyOf_1 : decode cX2_copyOf 1 = .ok (.istore_n 3, 1) := by decide +kernel
theorem dX2_copyOf_2 : decode cX2_copyOf 2 = .ok (.iconst 0, 1) := by decide +kernel
theorem dX2_copyOf_3 : decode cX2_copyOf 3 = .ok (.istore 4, 2) := by decide +kernel
theorem dX2_copyOf_5 : decode cX2_copyOf 5 = .ok (.iload 4, 2) := by decide +kernel
theorem dX2_copyOf_7 : decode cX2_copyOf 7 = .ok (.bipush 24, 2) := by decide +kernel
theorem dX2_copyOf_9 : decode cX2_copyOf 9 = .ok (.if_icmp .ge 33, 3) := by decide +kernel
theorem dX2_copyOf_12 : decode cX2_copyOf 12 = .ok (.iload_n 3, 1) := by decide +kernel
theorem dX2_copyOf_13 : decode cX2_copyOf 13 = .ok (.iconst 2, 1) := by decide +kernel
theorem dX2_copyOf_14 : decode cX2_copyOf 14 = .ok (.aload_n 0, 1) := by decide +kernel
theorem dX2_copyOf_15 : decode cX2_copyOf 15 = .ok (.invokevirtual 62, 3) := by decide +kernel
theorem dX2_copyOf_18 : decode cX2_copyOf 18 = .ok (.imul, 1) := by decide +kernel
theorem dX2_copyOf_19 : decode cX2_copyOf 19 = .ok (.bipush 30, 2) := by decide +kernel
theorem dX2_copyOf_21 : decode cX2_copyOf 21 = .ok (.iload_n 2, 1) := by decide +kernel
theorem dX2_copyOf_22 : decode cX2_copyOf 22 = .ok (.iadd, 1) := by decide +kernel
theorem dX2_copyOf_23 : decode cX2_copyOf 23 = .ok (.if_icmp .le 10, 3) := by decide +kernel
theorem dX2_copyOf_26 : decode cX2_copyOf 26 = .ok (.iconst 1, 1) := by decide +kernel
theorem dX2_copyOf_27 : decode cX2_copyOf 27 = .ok (.iload 4, 2) := by decide +kernel
theorem dX2_copyOf_29 : decode cX2_copyOf 29 = .ok (.ishl, 1) := by decide +kernel
theorem dX2_copyOf_30 : decode cX2_copyOf 30 = .ok (.goto 4, 3) := by decide +kernel
theorem dX2_copyOf_33 : decode cX2_copyOf 33 = .ok (.iconst 0, 1) := by decide +kernel
theorem dX2_copyOf_34 : decode cX2_copyOf 34 = .ok (.ixor, 1) := by decide +kernel
theorem dX2_copyOf_35 : decode cX2_copyOf 35 = .ok (.istore_n 3, 1) := by decide +kernel
theorem dX2_copyOf_36 : decode cX2_copyOf 36 = .ok (.iinc 4 1, 3) := by decide +kernel
theorem dX2_copyOf_39 : decode cX2_copyOf 39 = .ok (.goto (-34), 3) := by decide +kernel
theorem dX2_copyOf_42 : decode cX2_copyOf 42 = .ok (.iload_n 3, 1) := by decide +kernel
theorem dX2_copyOf_43 : decode cX2_copyOf 43 = .ok (.ireturn, 1) := by decide +kernel
set_option maxRecDepth 20000 in
theorem ggX2_transmit_X2_at : GoodIn wsX2_transmit wsX2_at := goodIn_r _ [6] (by decide +kernel) (by decide +kernel)
set_option maxRecDepth 20000 in
theorem gX2_transmit_X2_at : GoodIn wsX2_transmit (va_wsS RX2 51 yX2_at wsX2_at) := goodIn_app (goodIn_of _ (by decide +kernel)) ggX2_transmit_X2_at
set_option maxRecDepth 20000 in
theorem ggX2_transmit_X2_copyOf : GoodIn wsX2_transmit wsX2_copyOf := goodIn_r _ [10, 11, 12, 13, 5, 14, 2, 15, 16, 17, 1, 24, 25, 26, 27, 28, 29, 30] (by decide +kernel) (by decide +kernel)
set_option maxRecDepth 20000 in
theorem gX2_transmit_X2_copyOf : GoodIn wsX2_transmit (wsV RX2 66 RX2 yX2_copyOf wsX2_copyOf) := goodIn_app (goodIn_of _ (by decide +kernel)) ggX2_transmit_X2_copyOf
set_option maxRecDepth 20000 in
theorem ggX2_transmit_X2_has : GoodIn wsX2_transmit wsX2_has := goodIn_r _ [20] (by decide +kernel) (by decide +kernel)
set_option maxRecDepth 20000 in
theorem gX2_transmit_X2_has : GoodIn wsX2_transmit (va_wsS RX2 70 yX2_has wsX2_has) := goodIn_app (goodIn_of _ (by decide +kernel)) ggX2_transmit_X2_has
set_option maxRecDepth 20000 in
theorem ggX2_transmit_X2_majority : GoodIn wsX2_transmit wsX2_majority := goodIn_r _ [23] (by decide +kernel) (by decide +kernel)
set_option maxRecDepth 20000 in
theorem gX2_transmit_X2_majority : GoodIn wsX2_transmit (va_wsS RX2 73 yX2_majority wsX2_majority) := goodIn_app (goodIn_of _ (by decide +kernel)) ggX2_transmit_X2_majority
theorem dX2_transmit_0 : decode cX2_transmit 0 = .ok (.ldc 61, 2) := by decide +kernel
theorem dX2_transmit_2 : decode cX2_transmit 2 = .ok (.iload_n 1, 1) := by decide +kernel
theorem dX2_transmit_3 : decode cX2_transmit 3 = .ok (.imul, 1) := by decide +kernel
theorem dX2_transmit_4 : decode cX2_transmit 4 = .ok (.sipush 256, 3) := by decide +kernel
theorem dX2_transmit_7 : decode cX2_transmit 7 = .ok (.iload 4, 2) := by decide +kernel
theorem dX2_transmit_9 : decode cX2_transmit 9 = .ok (.imul, 1) := by decide +kernel
theorem dX2_transmit_10 : decode cX2_transmit 10 = .ok (.iadd, 1) := by decide +kernel
theorem dX2_transmit_11 : decode cX2_transmit 11 = .ok (.iload_n 2, 1) := by decide +kernel
theorem dX2_transmit_12 : decode cX2_transmit 12 = .ok (.iadd, 1) := by decide +kernel
theorem dX2_transmit_13 : decode cX2_transmit 13 = .ok (.istore 6, 2) := by decide +kernel
theorem dX2_transmit_15 : decode cX2_transmit 15 = .ok (.aload_n 0, 1) := by decide +kernel
theorem dX2_transmit_16 : decode cX2_transmit 16 = .ok (.getfield 7, 3) := by decide +kernel
theorem dX2_transmit_19 : decode cX2_transmit 19 = .ok (.bipush 24, 2) := by decide +kernel
theorem dX2_transmit_21 : decode cX2_transmit 21 = .ok (.iload_n 2, 1) := by decide +kernel
theorem dX2_transmit_22 : decode cX2_transmit 22 = .ok (.iload_n 3, 1) := by decide +kernel
theorem dX2_transmit_23 : decode cX2_transmit 23 = .ok (.iload 5, 2) := by decide +kernel
theorem dX2_transmit_25 : decode cX2_transmit 25 = .ok (.invokestatic 51, 3) := by decide +kernel
theorem dX2_transmit_28 : decode cX2_transmit 28 = .ok (.iadd, 1) := by decide +kernel
theorem dX2_transmit_29 : decode cX2_transmit 29 = .ok (.iaload, 1) := by decide +kernel
theorem dX2_transmit_30 : decode cX2_transmit 30 = .ok (.istore 7, 2) := by decide +kernel
theorem dX2_transmit_32 : decode cX2_transmit 32 = .ok (.aload_n 0, 1) := by decide +kernel
theorem dX2_transmit_33 : decode cX2_transmit 33 = .ok (.iload 6, 2) := by decide +kernel
theorem dX2_transmit_35 : decode cX2_transmit 35 = .ok (.iload 7, 2) := by decide +kernel
theorem dX2_transmit_37 : decode cX2_transmit 37 = .ok (.invokevirtual 66, 3) := by decide +kernel
theorem dX2_transmit_40 : decode cX2_transmit 40 = .ok (.istore 8, 2) := by decide +kernel
theorem dX2_transmit_42 : decode cX2_transmit 42 = .ok (.aload_n 0, 1) := by decide +kernel
theorem dX2_transmit_43 : decode cX2_transmit 43 = .ok (.iload 6, 2) := by decide +kernel
theorem dX2_transmit_45 : decode cX2_transmit 45 = .ok (.iload 7, 2) := by decide +kernel
theorem dX2_transmit_47 : decode cX2_transmit 47 = .ok (.invokevirtual 66, 3) := by decide +kernel
theorem dX2_transmit_50 : decode cX2_transmit 50 = .ok (.istore 9, 2) := by decide +kernel
theorem dX2_transmit_52 : decode cX2_transmit 52 = .ok (.aload_n 0, 1) := by decide +kernel
theorem dX2_transmit_53 : decode cX2_transmit 53 = .ok (.iload 6, 2) := by decide +kernel
theorem dX2_transmit_55 : decode cX2_transmit 55 = .ok (.iload 7, 2) := by decide +kernel
theorem dX2_transmit_57 : decode cX2_transmit 57 = .ok (.invokevirtual 66, 3) := by decide +kernel
theorem dX2_transmit_60 : decode cX2_transmit 60 = .ok (.istore 10, 2) := by decide +kernel
theorem dX2_transmit_62 : decode cX2_transmit 62 = .ok (.iload 8, 2) := by decide +kernel
theorem dX2_transmit_64 : decode cX2_transmit 64 = .ok (.iload 9, 2) := by decide +kernel
theorem dX2_transmit_66 : decode cX2_transmit 66 = .ok (.ixor, 1) := by decide +kernel
theorem dX2_transmit_67 : decode cX2_transmit 67 = .ok (.iload 8, 2) := by decide +kernel
theorem dX2_transmit_69 : decode cX2_transmit 69 = .ok (.iload 10, 2) := by decide +kernel
theorem dX2_transmit_71 : decode cX2_transmit 71 = .ok (.ixor, 1) := by decide +kernel
theorem dX2_transmit_72 : decode cX2_transmit 72 = .ok (.ior, 1) := by decide +kernel
theorem dX2_transmit_73 : decode cX2_transmit 73 = .ok (.istore 11, 2) := by decide +kernel
theorem dX2_transmit_75 : decode cX2_transmit 75 = .ok (.iconst 0, 1) := by decide +kernel
theorem dX2_transmit_76 : decode cX2_transmit 76 = .ok (.istore 12, 2) := by decide +kernel
theorem dX2_transmit_78 : decode cX2_transmit 78 = .ok (.iconst 0, 1) := by decide +kernel
theorem dX2_transmit_79 : decode cX2_transmit 79 = .ok (.istore 13, 2) := by decide +kernel
theorem dX2_transmit_81 : decode cX2_transmit 81 = .ok (.iload 13, 2) := by decide +kernel
theorem dX2_transmit_83 : decode cX2_transmit 83 = .ok (.bipush 24, 2) := by decide +kernel
theorem dX2_transmit_85 : decode cX2_transmit 85 = .ok (.if_icmp .ge 29, 3) := by decide +kernel
theorem dX2_transmit_88 : decode cX2_transmit 88 = .ok (.iload 12, 2) := by decide +kernel
theorem dX2_transmit_90 : decode cX2_transmit 90 = .ok (.iload 11, 2) := by decide +kernel
theorem dX2_transmit_92 : decode cX2_transmit 92 = .ok (.iload 13, 2) := by decide +kernel
theorem dX2_transmit_94 : decode cX2_transmit 94 = .ok (.invokestatic 70, 3) := by decide +kernel
theorem dX2_transmit_97 : decode cX2_transmit 97 = .ok (.ifCond .eq 7, 3) := by decide +kernel
theorem dX2_transmit_100 : decode cX2_transmit 100 = .ok (.iconst 0, 1) := by decide +kernel
theorem dX2_transmit_101 : decode cX2_transmit 101 = .ok (.goto 4, 3) := by decide +kernel
theorem dX2_transmit_104 : decode cX2_transmit 104 = .ok (.iconst 1, 1) := by decide +kernel
theorem dX2_transmit_105 : decode cX2_transmit 105 = .ok (.iadd, 1) := by decide +kernel
theorem dX2_transmit_106 : decode cX2_transmit 106 = .ok (.istore 12, 2) := by decide +kernel
theorem dX2_transmit_108 : decode cX2_transmit 108 = .ok (.iinc 13 1, 3) := by decide +kernel
theorem dX2_transmit_111 : decode cX2_transmit 111 = .ok (.goto (-30), 3) := by decide +kernel
theorem dX2_transmit_114 : decode cX2_transmit 114 = .ok (.aload_n 0, 1) := by decide +kernel
theorem dX2_transmit_115 : decode cX2_transmit 115 = .ok (.getfield 7, 3) := by decide +kernel
theorem dX2_transmit_118 : decode cX2_transmit 118 = .ok (.iconst 3, 1) := by decide +kernel
theorem dX2_transmit_119 : decode cX2_transmit 119 = .ok (.dup2, 1) := by decide +kernel
theorem dX2_transmit_120 : decode cX2_transmit 120 = .ok (.iaload, 1) := by decide +kernel
theorem dX2_transmit_121 : decode cX2_transmit 121 = .ok (.iconst 1, 1) := by decide +kernel
theorem dX2_transmit_122 : decode cX2_transmit 122 = .ok (.iadd, 1) := by decide +kernel
theorem dX2_transmit_123 : decode cX2_transmit 123 = .ok (.iastore, 1) := by decide +kernel
theorem dX2_transmit_124 : decode cX2_transmit 124 = .ok (.aload_n 0, 1) := by decide +kernel
theorem dX2_transmit_125 : decode cX2_transmit 125 = .ok (.getfield 7, 3) := by decide +kernel
theorem dX2_transmit_128 : decode cX2_transmit 128 = .ok (.bipush 7, 2) := by decide +kernel
theorem dX2_transmit_130 : decode cX2_transmit 130 = .ok (.iload 12, 2) := by decide +kernel
theorem dX2_transmit_132 : decode cX2_transmit 132 = .ok (.iastore, 1) := by decide +kernel
theorem dX2_transmit_133 : decode cX2_transmit 133 = .ok (.aload_n 0, 1) := by decide +kernel
theorem dX2_transmit_134 : decode cX2_transmit 134 = .ok (.getfield 7, 3) := by decide +kernel
theorem dX2_transmit_137 : decode cX2_transmit 137 = .ok (.bipush 8, 2) := by decide +kernel
theorem dX2_transmit_139 : decode cX2_transmit 139 = .ok (.iload 8, 2) := by decide +kernel
theorem dX2_transmit_141 : decode cX2_transmit 141 = .ok (.iload 9, 2) := by decide +kernel
theorem dX2_transmit_143 : decode cX2_transmit 143 = .ok (.iload 10, 2) := by decide +kernel
theorem dX2_transmit_145 : decode cX2_transmit 145 = .ok (.invokestatic 73, 3) := by decide +kernel
theorem dX2_transmit_148 : decode cX2_transmit 148 = .ok (.iastore, 1) := by decide +kernel
theorem dX2_transmit_149 : decode cX2_transmit 149 = .ok (.aload_n 0, 1) := by decide +kernel
theorem dX2_transmit_150 : decode cX2_transmit 150 = .ok (.getfield 7, 3) := by decide +kernel
theorem dX2_transmit_153 : decode cX2_transmit 153 = .ok (.bipush 8, 2) := by decide +kernel
theorem dX2_transmit_155 : decode cX2_transmit 155 = .ok (.iaload, 1) := by decide +kernel
theorem dX2_transmit_156 : decode cX2_transmit 156 = .ok (.iload 6, 2) := by decide +kernel
theorem dX2_transmit_158 : decode cX2_transmit 158 = .ok (.if_icmp .eq 5, 3) := by decide +kernel
theorem dX2_transmit_161 : decode cX2_transmit 161 = .ok (.iconst 0, 1) := by decide +kernel
theorem dX2_transmit_162 : decode cX2_transmit 162 = .ok (.ireturn, 1) := by decide +kernel
theorem dX2_transmit_163 : decode cX2_transmit 163 = .ok (.aload_n 0, 1) := by decide +kernel
theorem dX2_transmit_164 : decode cX2_transmit 164 = .ok (.getfield 7, 3) := by decide +kernel
theorem dX2_transmit_167 : decode cX2_transmit 167 = .ok (.iconst 4, 1) := by decide +kernel
theorem dX2_transmit_168 : decode cX2_transmit 168 = .ok (.dup2, 1) := by decide +kernel
theorem dX2_transmit_169 : decode cX2_transmit 169 = .ok (.iaload, 1) := by decide +kernel
theorem dX2_transmit_170 : decode cX2_transmit 170 = .ok (.iconst 1, 1) := by decide +kernel
theorem dX2_transmit_171 : decode cX2_transmit 171 = .ok (.iadd, 1) := by decide +kernel
theorem dX2_transmit_172 : decode cX2_transmit 172 = .ok (.iastore, 1) := by decide +kernel
theorem dX2_transmit_173 : decode cX2_transmit 173 = .ok (.aload_n 0, 1) := by decide +kernel
theorem dX2_transmit_174 : decode cX2_transmit 174 = .ok (.getfield 7, 3) := by decide +kernel
theorem dX2_transmit_177 : decode cX2_transmit 177 = .ok (.sipush 224, 3) := by decide +kernel
theorem dX2_transmit_180 : decode cX2_transmit 180 = .ok (.iload_n 3, 1) := by decide +kernel
theorem dX2_transmit_181 : decode cX2_transmit 181 = .ok (.iload_n 2, 1) := by decide +kernel
theorem dX2_transmit_182 : decode cX2_transmit 182 = .ok (.iload 5, 2) := by decide +kernel
theorem dX2_transmit_184 : decode cX2_transmit 184 = .ok (.invokestatic 51, 3) := by decide +kernel
theorem dX2_transmit_187 : decode cX2_transmit 187 = .ok (.iadd, 1) := by decide +kernel
theorem dX2_transmit_188 : decode cX2_transmit 188 = .ok (.iload 12, 2) := by decide +kernel
theorem dX2_transmit_190 : decode cX2_transmit 190 = .ok (.bipush 30, 2) := by decide +kernel
theorem dX2_transmit_192 : decode cX2_transmit 192 = .ok (.imul, 1) := by decide +kernel
theorem dX2_transmit_193 : decode cX2_transmit 193 = .ok (.bipush 24, 2) := by decide +kernel
theorem dX2_transmit_195 : decode cX2_transmit 195 = .ok (.idiv, 1) := by decide +kernel
theorem dX2_transmit_196 : decode cX2_transmit 196 = .ok (.iastore, 1) := by decide +kernel
theorem dX2_transmit_197 : decode cX2_transmit 197 = .ok (.aload_n 0, 1) := by decide +kernel
theorem dX2_transmit_198 : decode cX2_transmit 198 = .ok (.getfield 7, 3) := by decide +kernel
theorem dX2_transmit_201 : decode cX2_transmit 201 = .ok (.sipush 424, 3) := by decide +kernel
theorem dX2_transmit_204 : decode cX2_transmit 204 = .ok (.iload_n 3, 1) := by decide +kernel
theorem dX2_transmit_205 : decode cX2_transmit 205 = .ok (.iload_n 2, 1) := by decide +kernel
theorem dX2_transmit_206 : decode cX2_transmit 206 = .ok (.iload 5, 2) := by decide +kernel
theorem dX2_transmit_208 : decode cX2_transmit 208 = .ok (.invokestatic 51, 3) := by decide +kernel
theorem dX2_transmit_211 : decode cX2_transmit 211 = .ok (.iadd, 1) := by decide +kernel
theorem dX2_transmit_212 : decode cX2_transmit 212 = .ok (.aload_n 0, 1) := by decide +kernel
theorem dX2_transmit_213 : decode cX2_transmit 213 = .ok (.getfield 7, 3) := by decide +kernel
theorem dX2_transmit_216 : decode cX2_transmit 216 = .ok (.iconst 0, 1) := by decide +kernel
theorem dX2_transmit_217 : decode cX2_transmit 217 = .ok (.iaload, 1) := by decide +kernel
theorem dX2_transmit_218 : decode cX2_transmit 218 = .ok (.iastore, 1) := by decide +kernel
theorem dX2_transmit_219 : decode cX2_transmit 219 = .ok (.iconst 1, 1) := by decide +kernel
theorem dX2_transmit_220 : decode cX2_transmit 220 = .ok (.ireturn, 1) := by decide +kernel
set_option maxRecDepth 20000 in
theorem ggX2_listens_X2_count : GoodIn wsX2_listens wsX2_count := goodIn_r _ [5] (by decide +kernel) (by decide +kernel)
set_option maxRecDepth 20000 in
theorem gX2_listens_X2_count : GoodIn wsX2_listens (va_wsS RX2 76 yX2_count wsX2_count) := goodIn_app (goodIn_of _ (by decide +kernel)) ggX2_listens_X2_count
set_option maxRecDepth 20000 in
theorem ggX2_listens_X2_has : GoodIn wsX2_listens wsX2_has := goodIn_r _ [8] (by decide +kernel) (by decide +kernel)
set_option maxRecDepth 20000 in
theorem gX2_listens_X2_has : GoodIn wsX2_listens (va_wsS RX2 70 yX2_has wsX2_has) := goodIn_app (goodIn_of _ (by decide +kernel)) ggX2_listens_X2_has
theorem dX2_listens_0 : decode cX2_listens 0 = .ok (.iload_n 2, 1) := by decide +kernel
theorem dX2_listens_1 : decode cX2_listens 1 = .ok (.aload_n 0, 1) := by decide +kernel
theorem dX2_listens_2 : decode cX2_listens 2 = .ok (.getfield 7, 3) := by decide +kernel
theorem dX2_listens_5 : decode cX2_listens 5 = .ok (.bipush 9, 2) := by decide +kernel
theorem dX2_listens_7 : decode cX2_listens 7 = .ok (.iload_n 1, 1) := by decide +kernel
theorem dX2_listens_8 : decode cX2_listens 8 = .ok (.iadd, 1) := by decide +kernel
theorem dX2_listens_9 : decode cX2_listens 9 = .ok (.iaload, 1) := by decide +kernel
theorem dX2_listens_10 : decode cX2_listens 10 = .ok (.invokestatic 76, 3) := by decide +kernel
theorem dX2_listens_13 : decode cX2_listens 13 = .ok (.irem, 1) := by decide +kernel
theorem dX2_listens_14 : decode cX2_listens 14 = .ok (.istore_n 3, 1) := by decide +kernel
theorem dX2_listens_15 : decode cX2_listens 15 = .ok (.iconst 0, 1) := by decide +kernel
theorem dX2_listens_16 : decode cX2_listens 16 = .ok (.istore 4, 2) := by decide +kernel
theorem dX2_listens_18 : decode cX2_listens 18 = .ok (.aload_n 0, 1) := by decide +kernel
theorem dX2_listens_19 : decode cX2_listens 19 = .ok (.getfield 7, 3) := by decide +kernel
theorem dX2_listens_22 : decode cX2_listens 22 = .ok (.bipush 9, 2) := by decide +kernel
theorem dX2_listens_24 : decode cX2_listens 24 = .ok (.iload_n 1, 1) := by decide +kernel
theorem dX2_listens_25 : decode cX2_listens 25 = .ok (.iadd, 1) := by decide +kernel
theorem dX2_listens_26 : decode cX2_listens 26 = .ok (.iaload, 1) := by decide +kernel
theorem dX2_listens_27 : decode cX2_listens 27 = .ok (.iload 4, 2) := by decide +kernel
theorem dX2_listens_29 : decode cX2_listens 29 = .ok (.invokestatic 70, 3) := by decide +kernel
theorem dX2_listens_32 : decode cX2_listens 32 = .ok (.ifCond .eq 7, 3) := by decide +kernel
theorem dX2_listens_35 : decode cX2_listens 35 = .ok (.iload_n 3, 1) := by decide +kernel
theorem dX2_listens_36 : decode cX2_listens 36 = .ok (.ifCond .le 34, 3) := by decide +kernel
theorem dX2_listens_39 : decode cX2_listens 39 = .ok (.iload_n 3, 1) := by decide +kernel
theorem dX2_listens_40 : decode cX2_listens 40 = .ok (.aload_n 0, 1) := by decide +kernel
theorem dX2_listens_41 : decode cX2_listens 41 = .ok (.getfield 7, 3) := by decide +kernel
theorem dX2_listens_44 : decode cX2_listens 44 = .ok (.bipush 9, 2) := by decide +kernel
theorem dX2_listens_46 : decode cX2_listens 46 = .ok (.iload_n 1, 1) := by decide +kernel
theorem dX2_listens_47 : decode cX2_listens 47 = .ok (.iadd, 1) := by decide +kernel
theorem dX2_listens_48 : decode cX2_listens 48 = .ok (.iaload, 1) := by decide +kernel
theorem dX2_listens_49 : decode cX2_listens 49 = .ok (.iload 4, 2) := by decide +kernel
theorem dX2_listens_51 : decode cX2_listens 51 = .ok (.invokestatic 70, 3) := by decide +kernel
theorem dX2_listens_54 : decode cX2_listens 54 = .ok (.ifCond .eq 7, 3) := by decide +kernel
theorem dX2_listens_57 : decode cX2_listens 57 = .ok (.iconst 1, 1) := by decide +kernel
theorem dX2_listens_58 : decode cX2_listens 58 = .ok (.goto 4, 3) := by decide +kernel
theorem dX2_listens_61 : decode cX2_listens 61 = .ok (.iconst 0, 1) := by decide +kernel
theorem dX2_listens_62 : decode cX2_listens 62 = .ok (.isub, 1) := by decide +kernel
theorem dX2_listens_63 : decode cX2_listens 63 = .ok (.istore_n 3, 1) := by decide +kernel
theorem dX2_listens_64 : decode cX2_listens 64 = .ok (.iinc 4 1, 3) := by decide +kernel
theorem dX2_listens_67 : decode cX2_listens 67 = .ok (.goto (-49), 3) := by decide +kernel
theorem dX2_listens_70 : decode cX2_listens 70 = .ok (.iload 4, 2) := by decide +kernel
theorem dX2_listens_72 : decode cX2_listens 72 = .ok (.ireturn, 1) := by decide +kernel
set_option maxRecDepth 20000 in
theorem ggX2_mostOf_X2_has : GoodIn wsX2_mostOf wsX2_has := goodIn_r _ [5] (by decide +kernel) (by decide +kernel)
set_option maxRecDepth 20000 in
theorem gX2_mostOf_X2_has : GoodIn wsX2_mostOf (va_wsS RX2 70 yX2_has wsX2_has) := goodIn_app (goodIn_of _ (by decide +kernel)) ggX2_mostOf_X2_has
set_option maxRecDepth 20000 in
theorem ggX2_mostOf_X2_count : GoodIn wsX2_mostOf wsX2_count := goodIn_r _ [8] (by decide +kernel) (by decide +kernel)
set_option maxRecDepth 20000 in
theorem gX2_mostOf_X2_count : GoodIn wsX2_mostOf (va_wsS RX2 76 yX2_count wsX2_count) := goodIn_app (goodIn_of _ (by decide +kernel)) ggX2_mostOf_X2_count
theorem dX2_mostOf_0 : decode cX2_mostOf 0 = .ok (.iconst 0, 1) := by decide +kernel
theorem dX2_mostOf_1 : decode cX2_mostOf 1 = .ok (.istore_n 2, 1) := by decide +kernel
theorem dX2_mostOf_2 : decode cX2_mostOf 2 = .ok (.iconst 0, 1) := by decide +kernel
theorem dX2_mostOf_3 : decode cX2_mostOf 3 = .ok (.istore_n 3, 1) := by decide +kernel
theorem dX2_mostOf_4 : decode cX2_mostOf 4 = .ok (.iload_n 3, 1) := by decide +kernel
theorem dX2_mostOf_5 : decode cX2_mostOf 5 = .ok (.iconst 5, 1) := by decide +kernel
theorem dX2_mostOf_6 : decode cX2_mostOf 6 = .ok (.if_icmp .ge 48, 3) := by decide +kernel
theorem dX2_mostOf_9 : decode cX2_mostOf 9 = .ok (.iload_n 1, 1) := by decide +kernel
theorem dX2_mostOf_10 : decode cX2_mostOf 10 = .ok (.iload_n 3, 1) := by decide +kernel
theorem dX2_mostOf_11 : decode cX2_mostOf 11 = .ok (.invokestatic 70, 3) := by decide +kernel
theorem dX2_mostOf_14 : decode cX2_mostOf 14 = .ok (.ifCond .eq 18, 3) := by decide +kernel
theorem dX2_mostOf_17 : decode cX2_mostOf 17 = .ok (.aload_n 0, 1) := by decide +kernel
theorem dX2_mostOf_18 : decode cX2_mostOf 18 = .ok (.getfield 7, 3) := by decide +kernel
theorem dX2_mostOf_21 : decode cX2_mostOf 21 = .ok (.bipush 9, 2) := by decide +kernel
theorem dX2_mostOf_23 : decode cX2_mostOf 23 = .ok (.iload_n 3, 1) := by decide +kernel
theorem dX2_mostOf_24 : decode cX2_mostOf 24 = .ok (.iadd, 1) := by decide +kernel
theorem dX2_mostOf_25 : decode cX2_mostOf 25 = .ok (.iaload, 1) := by decide +kernel
theorem dX2_mostOf_26 : decode cX2_mostOf 26 = .ok (.invokestatic 76, 3) := by decide +kernel
theorem dX2_mostOf_29 : decode cX2_mostOf 29 = .ok (.goto 4, 3) := by decide +kernel
theorem dX2_mostOf_32 : decode cX2_mostOf 32 = .ok (.iconst 0, 1) := by decide +kernel
theorem dX2_mostOf_33 : decode cX2_mostOf 33 = .ok (.istore 4, 2) := by decide +kernel
theorem dX2_mostOf_35 : decode cX2_mostOf 35 = .ok (.iload 4, 2) := by decide +kernel
theorem dX2_mostOf_37 : decode cX2_mostOf 37 = .ok (.iload_n 2, 1) := by decide +kernel
theorem dX2_mostOf_38 : decode cX2_mostOf 38 = .ok (.if_icmp .le 8, 3) := by decide +kernel
theorem dX2_mostOf_41 : decode cX2_mostOf 41 = .ok (.iload 4, 2) := by decide +kernel
theorem dX2_mostOf_43 : decode cX2_mostOf 43 = .ok (.goto 4, 3) := by decide +kernel
theorem dX2_mostOf_46 : decode cX2_mostOf 46 = .ok (.iload_n 2, 1) := by decide +kernel
theorem dX2_mostOf_47 : decode cX2_mostOf 47 = .ok (.istore_n 2, 1) := by decide +kernel
theorem dX2_mostOf_48 : decode cX2_mostOf 48 = .ok (.iinc 3 1, 3) := by decide +kernel
theorem dX2_mostOf_51 : decode cX2_mostOf 51 = .ok (.goto (-47), 3) := by decide +kernel
theorem dX2_mostOf_54 : decode cX2_mostOf 54 = .ok (.iload_n 2, 1) := by decide +kernel
theorem dX2_mostOf_55 : decode cX2_mostOf 55 = .ok (.ireturn, 1) := by decide +kernel
set_option maxRecDepth 20000 in
theorem ggX2_sound_X2_isStation : GoodIn wsX2_sound wsX2_isStation := goodIn_r _ [5, 6, 7, 4, 8] (by decide +kernel) (by decide +kernel)
set_option maxRecDepth 20000 in
theorem gX2_sound_X2_isStation : GoodIn wsX2_sound (va_wsS RX2 37 yX2_isStation wsX2_isStation) := goodIn_app (goodIn_of _ (by decide +kernel)) ggX2_sound_X2_isStation
set_option maxRecDepth 20000 in
theorem ggX2_sound_X2_isChannel : GoodIn wsX2_sound wsX2_isChannel := goodIn_r _ [11, 6, 7, 4, 8] (by decide +kernel) (by decide +kernel)
set_option maxRecDepth 20000 in
theorem gX2_sound_X2_isChannel : GoodIn wsX2_sound (va_wsS RX2 48 yX2_isChannel wsX2_isChannel) := goodIn_app (goodIn_of _ (by decide +kernel)) ggX2_sound_X2_isChannel
set_option maxRecDepth 20000 in
theorem ggX2_sound_X2_fail : GoodIn wsX2_sound wsX2_fail := goodIn_r _ [15, 16, 63, 64, 65, 66, 67, 68, 69] (by decide +kernel) (by decide +kernel)
set_option maxRecDepth 20000 in
theorem gX2_sound_X2_fail : GoodIn wsX2_sound (wsV RX2 29 RX2 yX2_fail wsX2_fail) := goodIn_app (goodIn_of _ (by decide +kernel)) ggX2_sound_X2_fail
set_option maxRecDepth 20000 in
theorem ggX2_sound_X2_isLinked : GoodIn wsX2_sound wsX2_isLinked := goodIn_r _ [20, 1, 63, 64, 65, 66, 67, 68, 69] (by decide +kernel) (by decide +kernel)
set_option maxRecDepth 20000 in
theorem gX2_sound_X2_isLinked : GoodIn wsX2_sound (wsV RX2 79 RX2 yX2_isLinked wsX2_isLinked) := goodIn_app (goodIn_of _ (by decide +kernel)) ggX2_sound_X2_isLinked
set_option maxRecDepth 20000 in
theorem ggX2_sound_X2_note : GoodIn wsX2_sound wsX2_note := goodIn_r _ [24, 25, 26, 1, 63, 64, 65, 66, 67, 68, 69] (by decide +kernel) (by decide +kernel)
set_option maxRecDepth 20000 in
theorem gX2_sound_X2_note : GoodIn wsX2_sound (wsV RX2 41 RX2 yX2_note wsX2_note) := goodIn_app (goodIn_of _ (by decide +kernel)) ggX2_sound_X2_note
set_option maxRecDepth 20000 in
theorem ggX2_sound_X2_mostOf : GoodIn wsX2_sound wsX2_mostOf := goodIn_r _ [30, 1, 31, 32, 4, 33, 34, 35, 36, 63, 64, 65, 66, 67, 68, 69] (by decide +kernel) (by decide +kernel)
set_option maxRecDepth 20000 in
theorem gX2_sound_X2_mostOf : GoodIn wsX2_sound (wsV RX2 82 RX2 yX2_mostOf wsX2_mostOf) := goodIn_app (goodIn_of _ (by decide +kernel)) ggX2_sound_X2_mostOf
set_option maxRecDepth 20000 in
theorem ggX2_sound_X2_listens : GoodIn wsX2_sound wsX2_listens := goodIn_r _ [40, 1, 34, 35, 4, 36, 31, 32, 33, 63, 64, 65, 66, 67, 68, 69] (by decide +kernel) (by decide +kernel)
set_option maxRecDepth 20000 in
theorem gX2_sound_X2_listens : GoodIn wsX2_sound (wsV RX2 85 RX2 yX2_listens wsX2_listens) := goodIn_app (goodIn_of _ (by decide +kernel)) ggX2_sound_X2_listens
set_option maxRecDepth 20000 in
theorem ggX2_sound_X2_has : GoodIn wsX2_sound wsX2_has := goodIn_r _ [33] (by decide +kernel) (by decide +kernel)
set_option maxRecDepth 20000 in
theorem gX2_sound_X2_has : GoodIn wsX2_sound (va_wsS RX2 70 yX2_has wsX2_has) := goodIn_app (goodIn_of _ (by decide +kernel)) ggX2_sound_X2_has
set_option maxRecDepth 20000 in
theorem ggX2_sound_X2_transmit : GoodIn wsX2_sound wsX2_transmit := goodIn_r _ [44, 45, 1, 46, 47, 4, 48, 49, 50, 51, 52, 53, 54, 55, 56, 57, 58, 59, 31, 32, 33, 60, 61, 62, 63, 64, 65, 66, 67, 68, 69] (by decide +kernel) (by decide +kernel)
set_option maxRecDepth 20000 in
theorem gX2_sound_X2_transmit : GoodIn wsX2_sound (wsV RX2 88 RX2 yX2_transmit wsX2_transmit) := goodIn_app (goodIn_of _ (by decide +kernel)) ggX2_sound_X2_transmit
theorem dX2_sound_0 : decode cX2_sound 0 = .ok (.iload_n 1, 1) := by decide +kernel
theorem dX2_sound_1 : decode cX2_sound 1 = .ok (.invokestatic 37, 3) := by decide +kernel
theorem dX2_sound_4 : decode cX2_sound 4 = .ok (.ifCond .eq 10, 3) := by decide +kernel
theorem dX2_sound_7 : decode cX2_sound 7 = .ok (.iload_n 2, 1) := by decide +kernel
theorem dX2_sound_8 : decode cX2_sound 8 = .ok (.invokestatic 48, 3) := by decide +kernel
theorem dX2_sound_11 : decode cX2_sound 11 = .ok (.ifCond .ne 10, 3) := by decide +kernel
theorem dX2_sound_14 : decode cX2_sound 14 = .ok (.aload_n 0, 1) := by decide +kernel
theorem dX2_sound_15 : decode cX2_sound 15 = .ok (.bipush (-2), 2) := by decide +kernel
theorem dX2_sound_17 : decode cX2_sound 17 = .ok (.invokevirtual 29, 3) := by decide +kernel
theorem dX2_sound_20 : decode cX2_sound 20 = .ok (.ireturn, 1) := by decide +kernel
theorem dX2_sound_21 : decode cX2_sound 21 = .ok (.aload_n 0, 1) := by decide +kernel
theorem dX2_sound_22 : decode cX2_sound 22 = .ok (.iload_n 1, 1) := by decide +kernel
theorem dX2_sound_23 : decode cX2_sound 23 = .ok (.invokevirtual 79, 3) := by decide +kernel
theorem dX2_sound_26 : decode cX2_sound 26 = .ok (.ifCond .eq 10, 3) := by decide +kernel
theorem dX2_sound_29 : decode cX2_sound 29 = .ok (.aload_n 0, 1) := by decide +kernel
theorem dX2_sound_30 : decode cX2_sound 30 = .ok (.bipush (-3), 2) := by decide +kernel
theorem dX2_sound_32 : decode cX2_sound 32 = .ok (.invokevirtual 29, 3) := by decide +kernel
theorem dX2_sound_35 : decode cX2_sound 35 = .ok (.ireturn, 1) := by decide +kernel
theorem dX2_sound_36 : decode cX2_sound 36 = .ok (.aload_n 0, 1) := by decide +kernel
theorem dX2_sound_37 : decode cX2_sound 37 = .ok (.invokevirtual 41, 3) := by decide +kernel
theorem dX2_sound_40 : decode cX2_sound 40 = .ok (.aload_n 0, 1) := by decide +kernel
theorem dX2_sound_41 : decode cX2_sound 41 = .ok (.bipush 31, 2) := by decide +kernel
theorem dX2_sound_43 : decode cX2_sound 43 = .ok (.invokevirtual 82, 3) := by decide +kernel
theorem dX2_sound_46 : decode cX2_sound 46 = .ok (.istore_n 3, 1) := by decide +kernel
theorem dX2_sound_47 : decode cX2_sound 47 = .ok (.iconst 0, 1) := by decide +kernel
theorem dX2_sound_48 : decode cX2_sound 48 = .ok (.istore 4, 2) := by decide +kernel
theorem dX2_sound_50 : decode cX2_sound 50 = .ok (.iconst 0, 1) := by decide +kernel
theorem dX2_sound_51 : decode cX2_sound 51 = .ok (.istore 5, 2) := by decide +kernel
theorem dX2_sound_53 : decode cX2_sound 53 = .ok (.iload 5, 2) := by decide +kernel
theorem dX2_sound_55 : decode cX2_sound 55 = .ok (.iconst 5, 1) := by decide +kernel
theorem dX2_sound_56 : decode cX2_sound 56 = .ok (.if_icmp .ge 83, 3) := by decide +kernel
theorem dX2_sound_59 : decode cX2_sound 59 = .ok (.iconst 0, 1) := by decide +kernel
theorem dX2_sound_60 : decode cX2_sound 60 = .ok (.istore 6, 2) := by decide +kernel
theorem dX2_sound_62 : decode cX2_sound 62 = .ok (.iload 6, 2) := by decide +kernel
theorem dX2_sound_64 : decode cX2_sound 64 = .ok (.iload_n 3, 1) := by decide +kernel
theorem dX2_sound_65 : decode cX2_sound 65 = .ok (.if_icmp .ge 68, 3) := by decide +kernel
theorem dX2_sound_68 : decode cX2_sound 68 = .ok (.iload 5, 2) := by decide +kernel
theorem dX2_sound_70 : decode cX2_sound 70 = .ok (.iload_n 1, 1) := by decide +kernel
theorem dX2_sound_71 : decode cX2_sound 71 = .ok (.if_icmp .eq 35, 3) := by decide +kernel
theorem dX2_sound_74 : decode cX2_sound 74 = .ok (.aload_n 0, 1) := by decide +kernel
theorem dX2_sound_75 : decode cX2_sound 75 = .ok (.iload 5, 2) := by decide +kernel
theorem dX2_sound_77 : decode cX2_sound 77 = .ok (.invokevirtual 79, 3) := by decide +kernel
theorem dX2_sound_80 : decode cX2_sound 80 = .ok (.ifCond .ne 26, 3) := by decide +kernel
theorem dX2_sound_83 : decode cX2_sound 83 = .ok (.aload_n 0, 1) := by decide +kernel
theorem dX2_sound_84 : decode cX2_sound 84 = .ok (.iload 5, 2) := by decide +kernel
theorem dX2_sound_86 : decode cX2_sound 86 = .ok (.aload_n 0, 1) := by decide +kernel
theorem dX2_sound_87 : decode cX2_sound 87 = .ok (.getfield 7, 3) := by decide +kernel
theorem dX2_sound_90 : decode cX2_sound 90 = .ok (.iconst 0, 1) := by decide +kernel
theorem dX2_sound_91 : decode cX2_sound 91 = .ok (.iaload, 1) := by decide +kernel
theorem dX2_sound_92 : decode cX2_sound 92 = .ok (.iload 6, 2) := by decide +kernel
theorem dX2_sound_94 : decode cX2_sound 94 = .ok (.iadd, 1) := by decide +kernel
theorem dX2_sound_95 : decode cX2_sound 95 = .ok (.invokevirtual 85, 3) := by decide +kernel
theorem dX2_sound_98 : decode cX2_sound 98 = .ok (.iload_n 2, 1) := by decide +kernel
theorem dX2_sound_99 : decode cX2_sound 99 = .ok (.if_icmp .ne 7, 3) := by decide +kernel
theorem dX2_sound_102 : decode cX2_sound 102 = .ok (.iconst 1, 1) := by decide +kernel
theorem dX2_sound_103 : decode cX2_sound 103 = .ok (.goto 4, 3) := by decide +kernel
theorem dX2_sound_106 : decode cX2_sound 106 = .ok (.iconst 0, 1) := by decide +kernel
theorem dX2_sound_107 : decode cX2_sound 107 = .ok (.istore 7, 2) := by decide +kernel
theorem dX2_sound_109 : decode cX2_sound 109 = .ok (.iload 4, 2) := by decide +kernel
theorem dX2_sound_111 : decode cX2_sound 111 = .ok (.iload 7, 2) := by decide +kernel
theorem dX2_sound_113 : decode cX2_sound 113 = .ok (.ifCond .eq 10, 3) := by decide +kernel
theorem dX2_sound_116 : decode cX2_sound 116 = .ok (.iconst 1, 1) := by decide +kernel
theorem dX2_sound_117 : decode cX2_sound 117 = .ok (.iload 5, 2) := by decide +kernel
theorem dX2_sound_119 : decode cX2_sound 119 = .ok (.ishl, 1) := by decide +kernel
theorem dX2_sound_120 : decode cX2_sound 120 = .ok (.goto 4, 3) := by decide +kernel
theorem dX2_sound_123 : decode cX2_sound 123 = .ok (.iconst 0, 1) := by decide +kernel
theorem dX2_sound_124 : decode cX2_sound 124 = .ok (.ior, 1) := by decide +kernel
theorem dX2_sound_125 : decode cX2_sound 125 = .ok (.istore 4, 2) := by decide +kernel
theorem dX2_sound_127 : decode cX2_sound 127 = .ok (.iinc 6 1, 3) := by decide +kernel
theorem dX2_sound_130 : decode cX2_sound 130 = .ok (.goto (-68), 3) := by decide +kernel
theorem dX2_sound_133 : decode cX2_sound 133 = .ok (.iinc 5 1, 3) := by decide +kernel
theorem dX2_sound_136 : decode cX2_sound 136 = .ok (.goto (-83), 3) := by decide +kernel
theorem dX2_sound_139 : decode cX2_sound 139 = .ok (.aload_n 0, 1) := by decide +kernel
theorem dX2_sound_140 : decode cX2_sound 140 = .ok (.getfield 7, 3) := by decide +kernel
theorem dX2_sound_143 : decode cX2_sound 143 = .ok (.iconst 0, 1) := by decide +kernel
theorem dX2_sound_144 : decode cX2_sound 144 = .ok (.dup2, 1) := by decide +kernel
theorem dX2_sound_145 : decode cX2_sound 145 = .ok (.iaload, 1) := by decide +kernel
theorem dX2_sound_146 : decode cX2_sound 146 = .ok (.iload_n 3, 1) := by decide +kernel
theorem dX2_sound_147 : decode cX2_sound 147 = .ok (.iadd, 1) := by decide +kernel
theorem dX2_sound_148 : decode cX2_sound 148 = .ok (.iastore, 1) := by decide +kernel
theorem dX2_sound_149 : decode cX2_sound 149 = .ok (.iconst 0, 1) := by decide +kernel
theorem dX2_sound_150 : decode cX2_sound 150 = .ok (.istore 5, 2) := by decide +kernel
theorem dX2_sound_152 : decode cX2_sound 152 = .ok (.iconst 0, 1) := by decide +kernel
theorem dX2_sound_153 : decode cX2_sound 153 = .ok (.istore 6, 2) := by decide +kernel
theorem dX2_sound_155 : decode cX2_sound 155 = .ok (.iload 6, 2) := by decide +kernel
theorem dX2_sound_157 : decode cX2_sound 157 = .ok (.iconst 5, 1) := by decide +kernel
theorem dX2_sound_158 : decode cX2_sound 158 = .ok (.if_icmp .ge 43, 3) := by decide +kernel
theorem dX2_sound_161 : decode cX2_sound 161 = .ok (.iload 4, 2) := by decide +kernel
theorem dX2_sound_163 : decode cX2_sound 163 = .ok (.iload 6, 2) := by decide +kernel
theorem dX2_sound_165 : decode cX2_sound 165 = .ok (.invokestatic 70, 3) := by decide +kernel
theorem dX2_sound_168 : decode cX2_sound 168 = .ok (.ifCond .eq 27, 3) := by decide +kernel
theorem dX2_sound_171 : decode cX2_sound 171 = .ok (.aload_n 0, 1) := by decide +kernel
theorem dX2_sound_172 : decode cX2_sound 172 = .ok (.iconst 1, 1) := by decide +kernel
theorem dX2_sound_173 : decode cX2_sound 173 = .ok (.iload_n 1, 1) := by decide +kernel
theorem dX2_sound_174 : decode cX2_sound 174 = .ok (.iload 6, 2) := by decide +kernel
theorem dX2_sound_176 : decode cX2_sound 176 = .ok (.sipush 255, 3) := by decide +kernel
theorem dX2_sound_179 : decode cX2_sound 179 = .ok (.iload_n 2, 1) := by decide +kernel
theorem dX2_sound_180 : decode cX2_sound 180 = .ok (.invokevirtual 88, 3) := by decide +kernel
theorem dX2_sound_183 : decode cX2_sound 183 = .ok (.ifCond .eq 12, 3) := by decide +kernel
theorem dX2_sound_186 : decode cX2_sound 186 = .ok (.iload 5, 2) := by decide +kernel
theorem dX2_sound_188 : decode cX2_sound 188 = .ok (.iconst 1, 1) := by decide +kernel
theorem dX2_sound_189 : decode cX2_sound 189 = .ok (.iload 6, 2) := by decide +kernel
theorem dX2_sound_191 : decode cX2_sound 191 = .ok (.ishl, 1) := by decide +kernel
theorem dX2_sound_192 : decode cX2_sound 192 = .ok (.ior, 1) := by decide +kernel
theorem dX2_sound_193 : decode cX2_sound 193 = .ok (.istore 5, 2) := by decide +kernel
theorem dX2_sound_195 : decode cX2_sound 195 = .ok (.iinc 6 1, 3) := by decide +kernel
theorem dX2_sound_198 : decode cX2_sound 198 = .ok (.goto (-43), 3) := by decide +kernel
theorem dX2_sound_201 : decode cX2_sound 201 = .ok (.iload 5, 2) := by decide +kernel
theorem dX2_sound_203 : decode cX2_sound 203 = .ok (.ireturn, 1) := by decide +kernel
set_option maxRecDepth 20000 in
theorem ggX2_effectiveOf_X2_at : GoodIn wsX2_effectiveOf wsX2_at := goodIn_r _ [5] (by decide +kernel) (by decide +kernel)
set_option maxRecDepth 20000 in
theorem gX2_effectiveOf_X2_at : GoodIn wsX2_effectiveOf (va_wsS RX2 51 yX2_at wsX2_at) := goodIn_app (goodIn_of _ (by decide +kernel)) ggX2_effectiveOf_X2_at
theorem dX2_effectiveOf_0 : decode cX2_effectiveOf 0 = .ok (.aload_n 0, 1) := by decide +kernel
theorem dX2_effectiveOf_1 : decode cX2_effectiveOf 1 = .ok (.getfield 7, 3) := by decide +kernel
theorem dX2_effectiveOf_4 : decode cX2_effectiveOf 4 = .ok (.sipush 224, 3) := by decide +kernel
theorem dX2_effectiveOf_7 : decode cX2_effectiveOf 7 = .ok (.iload_n 1, 1) := by decide +kernel
theorem dX2_effectiveOf_8 : decode cX2_effectiveOf 8 = .ok (.iload_n 2, 1) := by decide +kernel
theorem dX2_effectiveOf_9 : decode cX2_effectiveOf 9 = .ok (.iload_n 3, 1) := by decide +kernel
theorem dX2_effectiveOf_10 : decode cX2_effectiveOf 10 = .ok (.invokestatic 51, 3) := by decide +kernel
theorem dX2_effectiveOf_13 : decode cX2_effectiveOf 13 = .ok (.iadd, 1) := by decide +kernel
theorem dX2_effectiveOf_14 : decode cX2_effectiveOf 14 = .ok (.iaload, 1) := by decide +kernel
theorem dX2_effectiveOf_15 : decode cX2_effectiveOf 15 = .ok (.istore 4, 2) := by decide +kernel
theorem dX2_effectiveOf_17 : decode cX2_effectiveOf 17 = .ok (.iload 4, 2) := by decide +kernel
theorem dX2_effectiveOf_19 : decode cX2_effectiveOf 19 = .ok (.iconst (-1), 1) := by decide +kernel
theorem dX2_effectiveOf_20 : decode cX2_effectiveOf 20 = .ok (.if_icmp .ne 5, 3) := by decide +kernel
theorem dX2_effectiveOf_23 : decode cX2_effectiveOf 23 = .ok (.iconst (-1), 1) := by decide +kernel
theorem dX2_effectiveOf_24 : decode cX2_effectiveOf 24 = .ok (.ireturn, 1) := by decide +kernel
theorem dX2_effectiveOf_25 : decode cX2_effectiveOf 25 = .ok (.iload 4, 2) := by decide +kernel
theorem dX2_effectiveOf_27 : decode cX2_effectiveOf 27 = .ok (.aload_n 0, 1) := by decide +kernel
theorem dX2_effectiveOf_28 : decode cX2_effectiveOf 28 = .ok (.getfield 7, 3) := by decide +kernel
theorem dX2_effectiveOf_31 : decode cX2_effectiveOf 31 = .ok (.iconst 0, 1) := by decide +kernel
theorem dX2_effectiveOf_32 : decode cX2_effectiveOf 32 = .ok (.iaload, 1) := by decide +kernel
theorem dX2_effectiveOf_33 : decode cX2_effectiveOf 33 = .ok (.aload_n 0, 1) := by decide +kernel
theorem dX2_effectiveOf_34 : decode cX2_effectiveOf 34 = .ok (.getfield 7, 3) := by decide +kernel
theorem dX2_effectiveOf_37 : decode cX2_effectiveOf 37 = .ok (.sipush 424, 3) := by decide +kernel
theorem dX2_effectiveOf_40 : decode cX2_effectiveOf 40 = .ok (.iload_n 1, 1) := by decide +kernel
theorem dX2_effectiveOf_41 : decode cX2_effectiveOf 41 = .ok (.iload_n 2, 1) := by decide +kernel
theorem dX2_effectiveOf_42 : decode cX2_effectiveOf 42 = .ok (.iload_n 3, 1) := by decide +kernel
theorem dX2_effectiveOf_43 : decode cX2_effectiveOf 43 = .ok (.invokestatic 51, 3) := by decide +kernel
theorem dX2_effectiveOf_46 : decode cX2_effectiveOf 46 = .ok (.iadd, 1) := by decide +kernel
theorem dX2_effectiveOf_47 : decode cX2_effectiveOf 47 = .ok (.iaload, 1) := by decide +kernel
theorem dX2_effectiveOf_48 : decode cX2_effectiveOf 48 = .ok (.isub, 1) := by decide +kernel
theorem dX2_effectiveOf_49 : decode cX2_effectiveOf 49 = .ok (.aload_n 0, 1) := by decide +kernel
theorem dX2_effectiveOf_50 : decode cX2_effectiveOf 50 = .ok (.getfield 7, 3) := by decide +kernel
theorem dX2_effectiveOf_53 : decode cX2_effectiveOf 53 = .ok (.iconst 2, 1) := by decide +kernel
theorem dX2_effectiveOf_54 : decode cX2_effectiveOf 54 = .ok (.iaload, 1) := by decide +kernel
theorem dX2_effectiveOf_55 : decode cX2_effectiveOf 55 = .ok (.idiv, 1) := by decide +kernel
theorem dX2_effectiveOf_56 : decode cX2_effectiveOf 56 = .ok (.isub, 1) := by decide +kernel
theorem dX2_effectiveOf_57 : decode cX2_effectiveOf 57 = .ok (.istore 5, 2) := by decide +kernel
theorem dX2_effectiveOf_59 : decode cX2_effectiveOf 59 = .ok (.iload 5, 2) := by decide +kernel
theorem dX2_effectiveOf_61 : decode cX2_effectiveOf 61 = .ok (.ifCond .le 8, 3) := by decide +kernel
theorem dX2_effectiveOf_64 : decode cX2_effectiveOf 64 = .ok (.iload 5, 2) := by decide +kernel
theorem dX2_effectiveOf_66 : decode cX2_effectiveOf 66 = .ok (.goto 4, 3) := by decide +kernel
theorem dX2_effectiveOf_69 : decode cX2_effectiveOf 69 = .ok (.iconst 0, 1) := by decide +kernel
theorem dX2_effectiveOf_70 : decode cX2_effectiveOf 70 = .ok (.ireturn, 1) := by decide +kernel
set_option maxRecDepth 20000 in
theorem ggX2_sortChannels_X2_has : GoodIn wsX2_sortChannels wsX2_has := goodIn_r _ [7] (by decide +kernel) (by decide +kernel)
set_option maxRecDepth 20000 in
theorem gX2_sortChannels_X2_has : GoodIn wsX2_sortChannels (va_wsS RX2 70 yX2_has wsX2_has) := goodIn_app (goodIn_of _ (by decide +kernel)) ggX2_sortChannels_X2_has
set_option maxRecDepth 20000 in
theorem ggX2_sortChannels_X2_effectiveOf : GoodIn wsX2_sortChannels wsX2_effectiveOf := goodIn_r _ [11, 1, 12, 13, 6, 14, 15, 16, 17, 18, 19, 20, 21] (by decide +kernel) (by decide +kernel)
set_option maxRecDepth 20000 in
theorem gX2_sortChannels_X2_effectiveOf : GoodIn wsX2_sortChannels (wsV RX2 92 RX2 yX2_effectiveOf wsX2_effectiveOf) := goodIn_app (goodIn_of _ (by decide +kernel)) ggX2_sortChannels_X2_effectiveOf
theorem dX2_sortChannels_0 : decode cX2_sortChannels 0 = .ok (.iconst 0, 1) := by decide +kernel
theorem dX2_sortChannels_1 : decode cX2_sortChannels 1 = .ok (.istore_n 3, 1) := by decide +kernel
theorem dX2_sortChannels_2 : decode cX2_sortChannels 2 = .ok (.iconst 0, 1) := by decide +kernel
theorem dX2_sortChannels_3 : decode cX2_sortChannels 3 = .ok (.istore 4, 2) := by decide +kernel
theorem dX2_sortChannels_5 : decode cX2_sortChannels 5 = .ok (.iload 4, 2) := by decide +kernel
theorem dX2_sortChannels_7 : decode cX2_sortChannels 7 = .ok (.bipush 8, 2) := by decide +kernel
theorem dX2_sortChannels_9 : decode cX2_sortChannels 9 = .ok (.if_icmp .ge 117, 3) := by decide +kernel
theorem dX2_sortChannels_12 : decode cX2_sortChannels 12 = .ok (.aload_n 0, 1) := by decide +kernel
theorem dX2_sortChannels_13 : decode cX2_sortChannels 13 = .ok (.getfield 7, 3) := by decide +kernel
theorem dX2_sortChannels_16 : decode cX2_sortChannels 16 = .ok (.bipush 9, 2) := by decide +kernel
theorem dX2_sortChannels_18 : decode cX2_sortChannels 18 = .ok (.iload_n 1, 1) := by decide +kernel
theorem dX2_sortChannels_19 : decode cX2_sortChannels 19 = .ok (.iadd, 1) := by decide +kernel
theorem dX2_sortChannels_20 : decode cX2_sortChannels 20 = .ok (.iaload, 1) := by decide +kernel
theorem dX2_sortChannels_21 : decode cX2_sortChannels 21 = .ok (.iload 4, 2) := by decide +kernel
theorem dX2_sortChannels_23 : decode cX2_sortChannels 23 = .ok (.invokestatic 70, 3) := by decide +kernel
theorem dX2_sortChannels_26 : decode cX2_sortChannels 26 = .ok (.ifCond .eq 94, 3) := by decide +kernel
theorem dX2_sortChannels_29 : decode cX2_sortChannels 29 = .ok (.aload_n 0, 1) := by decide +kernel
theorem dX2_sortChannels_30 : decode cX2_sortChannels 30 = .ok (.iload_n 1, 1) := by decide +kernel
theorem dX2_sortChannels_31 : decode cX2_sortChannels 31 = .ok (.iload_n 2, 1) := by decide +kernel
theorem dX2_sortChannels_32 : decode cX2_sortChannels 32 = .ok (.iload 4, 2) := by decide +kernel
theorem dX2_sortChannels_34 : decode cX2_sortChannels 34 = .ok (.invokevirtual 92, 3) := by decide +kernel
theorem dX2_sortChannels_37 : decode cX2_sortChannels 37 = .ok (.istore 5, 2) := by decide +kernel
theorem dX2_sortChannels_39 : decode cX2_sortChannels 39 = .ok (.iload_n 3, 1) := by decide +kernel
theorem dX2_sortChannels_40 : decode cX2_sortChannels 40 = .ok (.istore 6, 2) := by decide +kernel
theorem dX2_sortChannels_42 : decode cX2_sortChannels 42 = .ok (.iload 6, 2) := by decide +kernel
theorem dX2_sortChannels_44 : decode cX2_sortChannels 44 = .ok (.ifCond .le 55, 3) := by decide +kernel
theorem dX2_sortChannels_47 : decode cX2_sortChannels 47 = .ok (.aload_n 0, 1) := by decide +kernel
theorem dX2_sortChannels_48 : decode cX2_sortChannels 48 = .ok (.getfield 22, 3) := by decide +kernel
theorem dX2_sortChannels_51 : decode cX2_sortChannels 51 = .ok (.iload 6, 2) := by decide +kernel
theorem dX2_sortChannels_53 : decode cX2_sortChannels 53 = .ok (.iconst 1, 1) := by decide +kernel
theorem dX2_sortChannels_54 : decode cX2_sortChannels 54 = .ok (.isub, 1) := by decide +kernel
theorem dX2_sortChannels_55 : decode cX2_sortChannels 55 = .ok (.iaload, 1) := by decide +kernel
theorem dX2_sortChannels_56 : decode cX2_sortChannels 56 = .ok (.iload 5, 2) := by decide +kernel
theorem dX2_sortChannels_58 : decode cX2_sortChannels 58 = .ok (.if_icmp .ge 41, 3) := by decide +kernel
theorem dX2_sortChannels_61 : decode cX2_sortChannels 61 = .ok (.aload_n 0, 1) := by decide +kernel
theorem dX2_sortChannels_62 : decode cX2_sortChannels 62 = .ok (.getfield 22, 3) := by decide +kernel
theorem dX2_sortChannels_65 : decode cX2_sortChannels 65 = .ok (.iload 6, 2) := by decide +kernel
theorem dX2_sortChannels_67 : decode cX2_sortChannels 67 = .ok (.aload_n 0, 1) := by decide +kernel
theorem dX2_sortChannels_68 : decode cX2_sortChannels 68 = .ok (.getfield 22, 3) := by decide +kernel
theorem dX2_sortChannels_71 : decode cX2_sortChannels 71 = .ok (.iload 6, 2) := by decide +kernel
theorem dX2_sortChannels_73 : decode cX2_sortChannels 73 = .ok (.iconst 1, 1) := by decide +kernel
theorem dX2_sortChannels_74 : decode cX2_sortChannels 74 = .ok (.isub, 1) := by decide +kernel
theorem dX2_sortChannels_75 : decode cX2_sortChannels 75 = .ok (.iaload, 1) := by decide +kernel
theorem dX2_sortChannels_76 : decode cX2_sortChannels 76 = .ok (.iastore, 1) := by decide +kernel
theorem dX2_sortChannels_77 : decode cX2_sortChannels 77 = .ok (.aload_n 0, 1) := by decide +kernel
theorem dX2_sortChannels_78 : decode cX2_sortChannels 78 = .ok (.getfield 19, 3) := by decide +kernel
theorem dX2_sortChannels_81 : decode cX2_sortChannels 81 = .ok (.iload 6, 2) := by decide +kernel
theorem dX2_sortChannels_83 : decode cX2_sortChannels 83 = .ok (.aload_n 0, 1) := by decide +kernel
theorem dX2_sortChannels_84 : decode cX2_sortChannels 84 = .ok (.getfield 19, 3) := by decide +kernel
theorem dX2_sortChannels_87 : decode cX2_sortChannels 87 = .ok (.iload 6, 2) := by decide +kernel
theorem dX2_sortChannels_89 : decode cX2_sortChannels 89 = .ok (.iconst 1, 1) := by decide +kernel
theorem dX2_sortChannels_90 : decode cX2_sortChannels 90 = .ok (.isub, 1) := by decide +kernel
theorem dX2_sortChannels_91 : decode cX2_sortChannels 91 = .ok (.iaload, 1) := by decide +kernel
theorem dX2_sortChannels_92 : decode cX2_sortChannels 92 = .ok (.iastore, 1) := by decide +kernel
theorem dX2_sortChannels_93 : decode cX2_sortChannels 93 = .ok (.iinc 6 (-1), 3) := by decide +kernel
theorem dX2_sortChannels_96 : decode cX2_sortChannels 96 = .ok (.goto (-54), 3) := by decide +kernel
theorem dX2_sortChannels_99 : decode cX2_sortChannels 99 = .ok (.aload_n 0, 1) := by decide +kernel
theorem dX2_sortChannels_100 : decode cX2_sortChannels 100 = .ok (.getfield 22, 3) := by decide +kernel
theorem dX2_sortChannels_103 : decode cX2_sortChannels 103 = .ok (.iload 6, 2) := by decide +kernel
theorem dX2_sortChannels_105 : decode cX2_sortChannels 105 = .ok (.iload 5, 2) := by decide +kernel
theorem dX2_sortChannels_107 : decode cX2_sortChannels 107 = .ok (.iastore, 1) := by decide +kernel
theorem dX2_sortChannels_108 : decode cX2_sortChannels 108 = .ok (.aload_n 0, 1) := by decide +kernel
theorem dX2_sortChannels_109 : decode cX2_sortChannels 109 = .ok (.getfield 19, 3) := by decide +kernel
theorem dX2_sortChannels_112 : decode cX2_sortChannels 112 = .ok (.iload 6, 2) := by decide +kernel
theorem dX2_sortChannels_114 : decode cX2_sortChannels 114 = .ok (.iload 4, 2) := by decide +kernel
theorem dX2_sortChannels_116 : decode cX2_sortChannels 116 = .ok (.iastore, 1) := by decide +kernel
theorem dX2_sortChannels_117 : decode cX2_sortChannels 117 = .ok (.iinc 3 1, 3) := by decide +kernel
theorem dX2_sortChannels_120 : decode cX2_sortChannels 120 = .ok (.iinc 4 1, 3) := by decide +kernel
theorem dX2_sortChannels_123 : decode cX2_sortChannels 123 = .ok (.goto (-118), 3) := by decide +kernel
theorem dX2_sortChannels_126 : decode cX2_sortChannels 126 = .ok (.iload_n 3, 1) := by decide +kernel
theorem dX2_sortChannels_127 : decode cX2_sortChannels 127 = .ok (.ireturn, 1) := by decide +kernel
set_option maxRecDepth 20000 in
theorem ggX2_attempt_X2_count : GoodIn wsX2_attempt wsX2_count := goodIn_r _ [5] (by decide +kernel) (by decide +kernel)
set_option maxRecDepth 20000 in
theorem gX2_attempt_X2_count : GoodIn wsX2_attempt (va_wsS RX2 76 yX2_count wsX2_count) := goodIn_app (goodIn_of _ (by decide +kernel)) ggX2_attempt_X2_count
set_option maxRecDepth 20000 in
theorem ggX2_attempt_X2_has : GoodIn wsX2_attempt wsX2_has := goodIn_r _ [8] (by decide +kernel) (by decide +kernel)
set_option maxRecDepth 20000 in
theorem gX2_attempt_X2_has : GoodIn wsX2_attempt (va_wsS RX2 70 yX2_has wsX2_has) := goodIn_app (goodIn_of _ (by decide +kernel)) ggX2_attempt_X2_has
set_option maxRecDepth 20000 in
theorem ggX2_attempt_X2_transmit : GoodIn wsX2_attempt wsX2_transmit := goodIn_r _ [12, 13, 1, 14, 15, 4, 16, 17, 18, 19, 20, 21, 22, 23, 24, 25, 26, 27, 6, 7, 8, 28, 29, 30, 31, 32, 33, 34, 35, 36, 37] (by decide +kernel) (by decide +kernel)
set_option maxRecDepth 20000 in
theorem gX2_attempt_X2_transmit : GoodIn wsX2_attempt (wsV RX2 88 RX2 yX2_transmit wsX2_transmit) := goodIn_app (goodIn_of _ (by decide +kernel)) ggX2_attempt_X2_transmit
theorem dX2_attempt_0 : decode cX2_attempt 0 = .ok (.aload_n 0, 1) := by decide +kernel
theorem dX2_attempt_1 : decode cX2_attempt 1 = .ok (.getfield 7, 3) := by decide +kernel
theorem dX2_attempt_4 : decode cX2_attempt 4 = .ok (.iconst 0, 1) := by decide +kernel
theorem dX2_attempt_5 : decode cX2_attempt 5 = .ok (.dup2, 1) := by decide +kernel
theorem dX2_attempt_6 : decode cX2_attempt 6 = .ok (.iaload, 1) := by decide +kernel
theorem dX2_attempt_7 : decode cX2_attempt 7 = .ok (.aload_n 0, 1) := by decide +kernel
theorem dX2_attempt_8 : decode cX2_attempt 8 = .ok (.getfield 7, 3) := by decide +kernel
theorem dX2_attempt_11 : decode cX2_attempt 11 = .ok (.bipush 9, 2) := by decide +kernel
theorem dX2_attempt_13 : decode cX2_attempt 13 = .ok (.iload_n 2, 1) := by decide +kernel
theorem dX2_attempt_14 : decode cX2_attempt 14 = .ok (.iadd, 1) := by decide +kernel
theorem dX2_attempt_15 : decode cX2_attempt 15 = .ok (.iaload, 1) := by decide +kernel
theorem dX2_attempt_16 : decode cX2_attempt 16 = .ok (.invokestatic 76, 3) := by decide +kernel
theorem dX2_attempt_19 : decode cX2_attempt 19 = .ok (.iadd, 1) := by decide +kernel
theorem dX2_attempt_20 : decode cX2_attempt 20 = .ok (.iastore, 1) := by decide +kernel
theorem dX2_attempt_21 : decode cX2_attempt 21 = .ok (.aload_n 0, 1) := by decide +kernel
theorem dX2_attempt_22 : decode cX2_attempt 22 = .ok (.getfield 7, 3) := by decide +kernel
theorem dX2_attempt_25 : decode cX2_attempt 25 = .ok (.bipush 9, 2) := by decide +kernel
theorem dX2_attempt_27 : decode cX2_attempt 27 = .ok (.iload_n 2, 1) := by decide +kernel
theorem dX2_attempt_28 : decode cX2_attempt 28 = .ok (.iadd, 1) := by decide +kernel
theorem dX2_attempt_29 : decode cX2_attempt 29 = .ok (.iaload, 1) := by decide +kernel
theorem dX2_attempt_30 : decode cX2_attempt 30 = .ok (.iload_n 3, 1) := by decide +kernel
theorem dX2_attempt_31 : decode cX2_attempt 31 = .ok (.invokestatic 70, 3) := by decide +kernel
theorem dX2_attempt_34 : decode cX2_attempt 34 = .ok (.ifCond .eq 15, 3) := by decide +kernel
theorem dX2_attempt_37 : decode cX2_attempt 37 = .ok (.aload_n 0, 1) := by decide +kernel
theorem dX2_attempt_38 : decode cX2_attempt 38 = .ok (.iconst 2, 1) := by decide +kernel
theorem dX2_attempt_39 : decode cX2_attempt 39 = .ok (.iload_n 1, 1) := by decide +kernel
theorem dX2_attempt_40 : decode cX2_attempt 40 = .ok (.iload_n 2, 1) := by decide +kernel
theorem dX2_attempt_41 : decode cX2_attempt 41 = .ok (.iload_n 2, 1) := by decide +kernel
theorem dX2_attempt_42 : decode cX2_attempt 42 = .ok (.iload_n 3, 1) := by decide +kernel
theorem dX2_attempt_43 : decode cX2_attempt 43 = .ok (.invokevirtual 88, 3) := by decide +kernel
theorem dX2_attempt_46 : decode cX2_attempt 46 = .ok (.ifCond .ne 5, 3) := by decide +kernel
theorem dX2_attempt_49 : decode cX2_attempt 49 = .ok (.iconst 0, 1) := by decide +kernel
theorem dX2_attempt_50 : decode cX2_attempt 50 = .ok (.ireturn, 1) := by decide +kernel
theorem dX2_attempt_51 : decode cX2_attempt 51 = .ok (.aload_n 0, 1) := by decide +kernel
theorem dX2_attempt_52 : decode cX2_attempt 52 = .ok (.getfield 7, 3) := by decide +kernel
theorem dX2_attempt_55 : decode cX2_attempt 55 = .ok (.iconst 0, 1) := by decide +kernel
theorem dX2_attempt_56 : decode cX2_attempt 56 = .ok (.dup2, 1) := by decide +kernel
theorem dX2_attempt_57 : decode cX2_attempt 57 = .ok (.iaload, 1) := by decide +kernel
theorem dX2_attempt_58 : decode cX2_attempt 58 = .ok (.iconst 1, 1) := by decide +kernel
theorem dX2_attempt_59 : decode cX2_attempt 59 = .ok (.iadd, 1) := by decide +kernel
theorem dX2_attempt_60 : decode cX2_attempt 60 = .ok (.iastore, 1) := by decide +kernel
theorem dX2_attempt_61 : decode cX2_attempt 61 = .ok (.aload_n 0, 1) := by decide +kernel
theorem dX2_attempt_62 : decode cX2_attempt 62 = .ok (.iconst 3, 1) := by decide +kernel
theorem dX2_attempt_63 : decode cX2_attempt 63 = .ok (.iload_n 2, 1) := by decide +kernel
theorem dX2_attempt_64 : decode cX2_attempt 64 = .ok (.iload_n 1, 1) := by decide +kernel
theorem dX2_attempt_65 : decode cX2_attempt 65 = .ok (.iload_n 1, 1) := by decide +kernel
theorem dX2_attempt_66 : decode cX2_attempt 66 = .ok (.iload_n 3, 1) := by decide +kernel
theorem dX2_attempt_67 : decode cX2_attempt 67 = .ok (.invokevirtual 88, 3) := by decide +kernel
theorem dX2_attempt_70 : decode cX2_attempt 70 = .ok (.ifCond .ne 5, 3) := by decide +kernel
theorem dX2_attempt_73 : decode cX2_attempt 73 = .ok (.iconst 0, 1) := by decide +kernel
theorem dX2_attempt_74 : decode cX2_attempt 74 = .ok (.ireturn, 1) := by decide +kernel
theorem dX2_attempt_75 : decode cX2_attempt 75 = .ok (.aload_n 0, 1) := by decide +kernel
theorem dX2_attempt_76 : decode cX2_attempt 76 = .ok (.getfield 7, 3) := by decide +kernel
theorem dX2_attempt_79 : decode cX2_attempt 79 = .ok (.iconst 0, 1) := by decide +kernel
theorem dX2_attempt_80 : decode cX2_attempt 80 = .ok (.dup2, 1) := by decide +kernel
theorem dX2_attempt_81 : decode cX2_attempt 81 = .ok (.iaload, 1) := by decide +kernel
theorem dX2_attempt_82 : decode cX2_attempt 82 = .ok (.iconst 1, 1) := by decide +kernel
theorem dX2_attempt_83 : decode cX2_attempt 83 = .ok (.iadd, 1) := by decide +kernel
theorem dX2_attempt_84 : decode cX2_attempt 84 = .ok (.iastore, 1) := by decide +kernel
theorem dX2_attempt_85 : decode cX2_attempt 85 = .ok (.aload_n 0, 1) := by decide +kernel
theorem dX2_attempt_86 : decode cX2_attempt 86 = .ok (.iconst 4, 1) := by decide +kernel
theorem dX2_attempt_87 : decode cX2_attempt 87 = .ok (.iload_n 1, 1) := by decide +kernel
theorem dX2_attempt_88 : decode cX2_attempt 88 = .ok (.iload_n 2, 1) := by decide +kernel
theorem dX2_attempt_89 : decode cX2_attempt 89 = .ok (.iload_n 2, 1) := by decide +kernel
theorem dX2_attempt_90 : decode cX2_attempt 90 = .ok (.iload_n 3, 1) := by decide +kernel
theorem dX2_attempt_91 : decode cX2_attempt 91 = .ok (.invokevirtual 88, 3) := by decide +kernel
theorem dX2_attempt_94 : decode cX2_attempt 94 = .ok (.ireturn, 1) := by decide +kernel
set_option maxRecDepth 20000 in
theorem ggX2_join_X2_has : GoodIn wsX2_join wsX2_has := goodIn_r _ [5] (by decide +kernel) (by decide +kernel)
set_option maxRecDepth 20000 in
theorem gX2_join_X2_has : GoodIn wsX2_join (va_wsS RX2 70 yX2_has wsX2_has) := goodIn_app (goodIn_of _ (by decide +kernel)) ggX2_join_X2_has
theorem dX2_join_0 : decode cX2_join 0 = .ok (.iconst 0, 1) := by decide +kernel
theorem dX2_join_1 : decode cX2_join 1 = .ok (.istore_n 3, 1) := by decide +kernel
theorem dX2_join_2 : decode cX2_join 2 = .ok (.iload_n 3, 1) := by decide +kernel
theorem dX2_join_3 : decode cX2_join 3 = .ok (.iconst 5, 1) := by decide +kernel
theorem dX2_join_4 : decode cX2_join 4 = .ok (.if_icmp .ge 37, 3) := by decide +kernel
theorem dX2_join_7 : decode cX2_join 7 = .ok (.iload_n 1, 1) := by decide +kernel
theorem dX2_join_8 : decode cX2_join 8 = .ok (.iload_n 3, 1) := by decide +kernel
theorem dX2_join_9 : decode cX2_join 9 = .ok (.invokestatic 70, 3) := by decide +kernel
theorem dX2_join_12 : decode cX2_join 12 = .ok (.ifCond .eq 23, 3) := by decide +kernel
theorem dX2_join_15 : decode cX2_join 15 = .ok (.aload_n 0, 1) := by decide +kernel
theorem dX2_join_16 : decode cX2_join 16 = .ok (.getfield 7, 3) := by decide +kernel
theorem dX2_join_19 : decode cX2_join 19 = .ok (.bipush 14, 2) := by decide +kernel
theorem dX2_join_21 : decode cX2_join 21 = .ok (.iload_n 3, 1) := by decide +kernel
theorem dX2_join_22 : decode cX2_join 22 = .ok (.iadd, 1) := by decide +kernel
theorem dX2_join_23 : decode cX2_join 23 = .ok (.iload_n 1, 1) := by decide +kernel
theorem dX2_join_24 : decode cX2_join 24 = .ok (.iastore, 1) := by decide +kernel
theorem dX2_join_25 : decode cX2_join 25 = .ok (.aload_n 0, 1) := by decide +kernel
theorem dX2_join_26 : decode cX2_join 26 = .ok (.getfield 7, 3) := by decide +kernel
theorem dX2_join_29 : decode cX2_join 29 = .ok (.bipush 19, 2) := by decide +kernel
theorem dX2_join_31 : decode cX2_join 31 = .ok (.iload_n 3, 1) := by decide +kernel
theorem dX2_join_32 : decode cX2_join 32 = .ok (.iadd, 1) := by decide +kernel
theorem dX2_join_33 : decode cX2_join 33 = .ok (.iload_n 2, 1) := by decide +kernel
theorem dX2_join_34 : decode cX2_join 34 = .ok (.iastore, 1) := by decide +kernel
theorem dX2_join_35 : decode cX2_join 35 = .ok (.iinc 3 1, 3) := by decide +kernel
theorem dX2_join_38 : decode cX2_join 38 = .ok (.goto (-36), 3) := by decide +kernel
theorem dX2_join_41 : decode cX2_join 41 = .ok (.return_, 1) := by decide +kernel
set_option maxRecDepth 20000 in
theorem ggX2_call_X2_arePair : GoodIn wsX2_call wsX2_arePair := goodIn_r _ [6, 7, 8, 5, 9, 10, 11, 12] (by decide +kernel) (by decide +kernel)
set_option maxRecDepth 20000 in
theorem gX2_call_X2_arePair : GoodIn wsX2_call (va_wsS RX2 44 yX2_arePair wsX2_arePair) := goodIn_app (goodIn_of _ (by decide +kernel)) ggX2_call_X2_arePair
set_option maxRecDepth 20000 in
theorem ggX2_call_X2_fail : GoodIn wsX2_call wsX2_fail := goodIn_r _ [16, 17, 73, 74, 75, 76, 77, 78, 79] (by decide +kernel) (by decide +kernel)
set_option maxRecDepth 20000 in
theorem gX2_call_X2_fail : GoodIn wsX2_call (wsV RX2 29 RX2 yX2_fail wsX2_fail) := goodIn_app (goodIn_of _ (by decide +kernel)) ggX2_call_X2_fail
set_option maxRecDepth 20000 in
theorem ggX2_call_X2_isLinked : GoodIn wsX2_call wsX2_isLinked := goodIn_r _ [21, 1, 73, 74, 75, 76, 77, 78, 79] (by decide +kernel) (by decide +kernel)
set_option maxRecDepth 20000 in
theorem gX2_call_X2_isLinked : GoodIn wsX2_call (wsV RX2 79 RX2 yX2_isLinked wsX2_isLinked) := goodIn_app (goodIn_of _ (by decide +kernel)) ggX2_call_X2_isLinked
set_option maxRecDepth 20000 in
theorem ggX2_call_X2_note : GoodIn wsX2_call wsX2_note := goodIn_r _ [25, 26, 27, 1, 73, 74, 75, 76, 77, 78, 79] (by decide +kernel) (by decide +kernel)
set_option maxRecDepth 20000 in
theorem gX2_call_X2_note : GoodIn wsX2_call (wsV RX2 41 RX2 yX2_note wsX2_note) := goodIn_app (goodIn_of _ (by decide +kernel)) ggX2_call_X2_note
set_option maxRecDepth 20000 in
theorem ggX2_call_X2_sortChannels : GoodIn wsX2_call wsX2_sortChannels := goodIn_r _ [31, 1, 32, 2, 33, 34, 5, 35, 36, 37, 38, 39, 40, 41, 42, 73, 74, 75, 76, 77, 78, 79] (by decide +kernel) (by decide +kernel)
set_option maxRecDepth 20000 in
theorem gX2_call_X2_sortChannels : GoodIn wsX2_call (wsV RX2 95 RX2 yX2_sortChannels wsX2_sortChannels) := goodIn_app (goodIn_of _ (by decide +kernel)) ggX2_call_X2_sortChannels
set_option maxRecDepth 20000 in
theorem ggX2_call_X2_attempt : GoodIn wsX2_call wsX2_attempt := goodIn_r _ [46, 1, 47, 48, 5, 49, 33, 34, 35, 50, 51, 52, 53, 54, 40, 41, 42, 55, 56, 57, 58, 59, 60, 61, 62, 63, 64, 65, 66, 67, 68, 73, 74, 75, 76, 77, 78, 79] (by decide +kernel) (by decide +kernel)
set_option maxRecDepth 20000 in
theorem gX2_call_X2_attempt : GoodIn wsX2_call (wsV RX2 98 RX2 yX2_attempt wsX2_attempt) := goodIn_app (goodIn_of _ (by decide +kernel)) ggX2_call_X2_attempt
set_option maxRecDepth 20000 in
theorem ggX2_call_X2_join : GoodIn wsX2_call wsX2_join := goodIn_r _ [72, 1, 33, 34, 5, 35, 73, 74, 75, 76, 77, 78, 79] (by decide +kernel) (by decide +kernel)
set_option maxRecDepth 20000 in
theorem gX2_call_X2_join : GoodIn wsX2_call (wsV RX2 101 RX2 yX2_join wsX2_join) := goodIn_app (goodIn_of _ (by decide +kernel)) ggX2_call_X2_join
theorem dX2_call_0 : decode cX2_call 0 = .ok (.iload_n 1, 1) := by decide +kernel
theorem dX2_call_1 : decode cX2_call 1 = .ok (.iload_n 2, 1) := by decide +kernel
theorem dX2_call_2 : decode cX2_call 2 = .ok (.invokestatic 44, 3) := by decide +kernel
theorem dX2_call_5 : decode cX2_call 5 = .ok (.ifCond .ne 10, 3) := by decide +kernel
theorem dX2_call_8 : decode cX2_call 8 = .ok (.aload_n 0, 1) := by decide +kernel
theorem dX2_call_9 : decode cX2_call 9 = .ok (.bipush (-2), 2) := by decide +kernel
theorem dX2_call_11 : decode cX2_call 11 = .ok (.invokevirtual 29, 3) := by decide +kernel
theorem dX2_call_14 : decode cX2_call 14 = .ok (.ireturn, 1) := by decide +kernel
theorem dX2_call_15 : decode cX2_call 15 = .ok (.aload_n 0, 1) := by decide +kernel
theorem dX2_call_16 : decode cX2_call 16 = .ok (.iload_n 1, 1) := by decide +kernel
theorem dX2_call_17 : decode cX2_call 17 = .ok (.invokevirtual 79, 3) := by decide +kernel
theorem dX2_call_20 : decode cX2_call 20 = .ok (.ifCond .ne 11, 3) := by decide +kernel
theorem dX2_call_23 : decode cX2_call 23 = .ok (.aload_n 0, 1) := by decide +kernel
theorem dX2_call_24 : decode cX2_call 24 = .ok (.iload_n 2, 1) := by decide +kernel
theorem dX2_call_25 : decode cX2_call 25 = .ok (.invokevirtual 79, 3) := by decide +kernel
theorem dX2_call_28 : decode cX2_call 28 = .ok (.ifCond .eq 10, 3) := by decide +kernel
theorem dX2_call_31 : decode cX2_call 31 = .ok (.aload_n 0, 1) := by decide +kernel
theorem dX2_call_32 : decode cX2_call 32 = .ok (.bipush (-3), 2) := by decide +kernel
theorem dX2_call_34 : decode cX2_call 34 = .ok (.invokevirtual 29, 3) := by decide +kernel
theorem dX2_call_37 : decode cX2_call 37 = .ok (.ireturn, 1) := by decide +kernel
theorem dX2_call_38 : decode cX2_call 38 = .ok (.aload_n 0, 1) := by decide +kernel
theorem dX2_call_39 : decode cX2_call 39 = .ok (.invokevirtual 41, 3) := by decide +kernel
theorem dX2_call_42 : decode cX2_call 42 = .ok (.aload_n 0, 1) := by decide +kernel
theorem dX2_call_43 : decode cX2_call 43 = .ok (.iload_n 1, 1) := by decide +kernel
theorem dX2_call_44 : decode cX2_call 44 = .ok (.iload_n 2, 1) := by decide +kernel
theorem dX2_call_45 : decode cX2_call 45 = .ok (.invokevirtual 95, 3) := by decide +kernel
theorem dX2_call_48 : decode cX2_call 48 = .ok (.istore_n 3, 1) := by decide +kernel
theorem dX2_call_49 : decode cX2_call 49 = .ok (.aload_n 0, 1) := by decide +kernel
theorem dX2_call_50 : decode cX2_call 50 = .ok (.getfield 7, 3) := by decide +kernel
theorem dX2_call_53 : decode cX2_call 53 = .ok (.iconst 5, 1) := by decide +kernel
theorem dX2_call_54 : decode cX2_call 54 = .ok (.iconst 0, 1) := by decide +kernel
theorem dX2_call_55 : decode cX2_call 55 = .ok (.iastore, 1) := by decide +kernel
theorem dX2_call_56 : decode cX2_call 56 = .ok (.iconst 0, 1) := by decide +kernel
theorem dX2_call_57 : decode cX2_call 57 = .ok (.istore 4, 2) := by decide +kernel
theorem dX2_call_59 : decode cX2_call 59 = .ok (.iload 4, 2) := by decide +kernel
theorem dX2_call_61 : decode cX2_call 61 = .ok (.iload_n 3, 1) := by decide +kernel
theorem dX2_call_62 : decode cX2_call 62 = .ok (.if_icmp .ge 75, 3) := by decide +kernel
theorem dX2_call_65 : decode cX2_call 65 = .ok (.aload_n 0, 1) := by decide +kernel
theorem dX2_call_66 : decode cX2_call 66 = .ok (.getfield 7, 3) := by decide +kernel
theorem dX2_call_69 : decode cX2_call 69 = .ok (.iconst 5, 1) := by decide +kernel
theorem dX2_call_70 : decode cX2_call 70 = .ok (.dup2, 1) := by decide +kernel
theorem dX2_call_71 : decode cX2_call 71 = .ok (.iaload, 1) := by decide +kernel
theorem dX2_call_72 : decode cX2_call 72 = .ok (.iconst 1, 1) := by decide +kernel
theorem dX2_call_73 : decode cX2_call 73 = .ok (.iadd, 1) := by decide +kernel
theorem dX2_call_74 : decode cX2_call 74 = .ok (.iastore, 1) := by decide +kernel
theorem dX2_call_75 : decode cX2_call 75 = .ok (.aload_n 0, 1) := by decide +kernel
theorem dX2_call_76 : decode cX2_call 76 = .ok (.getfield 7, 3) := by decide +kernel
theorem dX2_call_79 : decode cX2_call 79 = .ok (.bipush 6, 2) := by decide +kernel
theorem dX2_call_81 : decode cX2_call 81 = .ok (.aload_n 0, 1) := by decide +kernel
theorem dX2_call_82 : decode cX2_call 82 = .ok (.getfield 19, 3) := by decide +kernel
theorem dX2_call_85 : decode cX2_call 85 = .ok (.iload 4, 2) := by decide +kernel
theorem dX2_call_87 : decode cX2_call 87 = .ok (.iaload, 1) := by decide +kernel
theorem dX2_call_88 : decode cX2_call 88 = .ok (.iastore, 1) := by decide +kernel
theorem dX2_call_89 : decode cX2_call 89 = .ok (.aload_n 0, 1) := by decide +kernel
theorem dX2_call_90 : decode cX2_call 90 = .ok (.iload_n 1, 1) := by decide +kernel
theorem dX2_call_91 : decode cX2_call 91 = .ok (.iload_n 2, 1) := by decide +kernel
theorem dX2_call_92 : decode cX2_call 92 = .ok (.aload_n 0, 1) := by decide +kernel
theorem dX2_call_93 : decode cX2_call 93 = .ok (.getfield 19, 3) := by decide +kernel
theorem dX2_call_96 : decode cX2_call 96 = .ok (.iload 4, 2) := by decide +kernel
theorem dX2_call_98 : decode cX2_call 98 = .ok (.iaload, 1) := by decide +kernel
theorem dX2_call_99 : decode cX2_call 99 = .ok (.invokevirtual 98, 3) := by decide +kernel
theorem dX2_call_102 : decode cX2_call 102 = .ok (.ifCond .eq 29, 3) := by decide +kernel
theorem dX2_call_105 : decode cX2_call 105 = .ok (.aload_n 0, 1) := by decide +kernel
theorem dX2_call_106 : decode cX2_call 106 = .ok (.iconst 1, 1) := by decide +kernel
theorem dX2_call_107 : decode cX2_call 107 = .ok (.iload_n 1, 1) := by decide +kernel
theorem dX2_call_108 : decode cX2_call 108 = .ok (.ishl, 1) := by decide +kernel
theorem dX2_call_109 : decode cX2_call 109 = .ok (.iconst 1, 1) := by decide +kernel
theorem dX2_call_110 : decode cX2_call 110 = .ok (.iload_n 2, 1) := by decide +kernel
theorem dX2_call_111 : decode cX2_call 111 = .ok (.ishl, 1) := by decide +kernel
theorem dX2_call_112 : decode cX2_call 112 = .ok (.ior, 1) := by decide +kernel
theorem dX2_call_113 : decode cX2_call 113 = .ok (.aload_n 0, 1) := by decide +kernel
theorem dX2_call_114 : decode cX2_call 114 = .ok (.getfield 19, 3) := by decide +kernel
theorem dX2_call_117 : decode cX2_call 117 = .ok (.iload 4, 2) := by decide +kernel
theorem dX2_call_119 : decode cX2_call 119 = .ok (.iaload, 1) := by decide +kernel
theorem dX2_call_120 : decode cX2_call 120 = .ok (.invokevirtual 101, 3) := by decide +kernel
theorem dX2_call_123 : decode cX2_call 123 = .ok (.aload_n 0, 1) := by decide +kernel
theorem dX2_call_124 : decode cX2_call 124 = .ok (.getfield 19, 3) := by decide +kernel
theorem dX2_call_127 : decode cX2_call 127 = .ok (.iload 4, 2) := by decide +kernel
theorem dX2_call_129 : decode cX2_call 129 = .ok (.iaload, 1) := by decide +kernel
theorem dX2_call_130 : decode cX2_call 130 = .ok (.ireturn, 1) := by decide +kernel
theorem dX2_call_131 : decode cX2_call 131 = .ok (.iinc 4 1, 3) := by decide +kernel
theorem dX2_call_134 : decode cX2_call 134 = .ok (.goto (-75), 3) := by decide +kernel
theorem dX2_call_137 : decode cX2_call 137 = .ok (.iconst (-1), 1) := by decide +kernel
theorem dX2_call_138 : decode cX2_call 138 = .ok (.ireturn, 1) := by decide +kernel
set_option maxRecDepth 20000 in
theorem ggX2_netScore_X2_has : GoodIn wsX2_netScore wsX2_has := goodIn_r _ [4] (by decide +kernel) (by decide +kernel)
set_option maxRecDepth 20000 in
theorem gX2_netScore_X2_has : GoodIn wsX2_netScore (va_wsS RX2 70 yX2_has wsX2_has) := goodIn_app (goodIn_of _ (by decide +kernel)) ggX2_netScore_X2_has
set_option maxRecDepth 20000 in
theorem ggX2_netScore_X2_effectiveOf : GoodIn wsX2_netScore wsX2_effectiveOf := goodIn_r _ [8, 9, 10, 11, 3, 12, 13, 14, 15, 16, 17, 18, 19] (by decide +kernel) (by decide +kernel)
set_option maxRecDepth 20000 in
theorem gX2_netScore_X2_effectiveOf : GoodIn wsX2_netScore (wsV RX2 92 RX2 yX2_effectiveOf wsX2_effectiveOf) := goodIn_app (goodIn_of _ (by decide +kernel)) ggX2_netScore_X2_effectiveOf
theorem dX2_netScore_0 : decode cX2_netScore 0 = .ok (.bipush 31, 2) := by decide +kernel
theorem dX2_netScore_2 : decode cX2_netScore 2 = .ok (.istore 4, 2) := by decide +kernel
theorem dX2_netScore_4 : decode cX2_netScore 4 = .ok (.iconst 0, 1) := by decide +kernel
theorem dX2_netScore_5 : decode cX2_netScore 5 = .ok (.istore 5, 2) := by decide +kernel
theorem dX2_netScore_7 : decode cX2_netScore 7 = .ok (.iload 5, 2) := by decide +kernel
theorem dX2_netScore_9 : decode cX2_netScore 9 = .ok (.iconst 5, 1) := by decide +kernel
theorem dX2_netScore_10 : decode cX2_netScore 10 = .ok (.if_icmp .ge 49, 3) := by decide +kernel
theorem dX2_netScore_13 : decode cX2_netScore 13 = .ok (.iload_n 2, 1) := by decide +kernel
theorem dX2_netScore_14 : decode cX2_netScore 14 = .ok (.iload 5, 2) := by decide +kernel
theorem dX2_netScore_16 : decode cX2_netScore 16 = .ok (.invokestatic 70, 3) := by decide +kernel
theorem dX2_netScore_19 : decode cX2_netScore 19 = .ok (.ifCond .eq 14, 3) := by decide +kernel
theorem dX2_netScore_22 : decode cX2_netScore 22 = .ok (.aload_n 0, 1) := by decide +kernel
theorem dX2_netScore_23 : decode cX2_netScore 23 = .ok (.iload_n 1, 1) := by decide +kernel
theorem dX2_netScore_24 : decode cX2_netScore 24 = .ok (.iload 5, 2) := by decide +kernel
theorem dX2_netScore_26 : decode cX2_netScore 26 = .ok (.iload_n 3, 1) := by decide +kernel
theorem dX2_netScore_27 : decode cX2_netScore 27 = .ok (.invokevirtual 92, 3) := by decide +kernel
theorem dX2_netScore_30 : decode cX2_netScore 30 = .ok (.goto 5, 3) := by decide +kernel
theorem dX2_netScore_33 : decode cX2_netScore 33 = .ok (.bipush 31, 2) := by decide +kernel
theorem dX2_netScore_35 : decode cX2_netScore 35 = .ok (.istore 6, 2) := by decide +kernel
theorem dX2_netScore_37 : decode cX2_netScore 37 = .ok (.iload 6, 2) := by decide +kernel
theorem dX2_netScore_39 : decode cX2_netScore 39 = .ok (.iload 4, 2) := by decide +kernel
theorem dX2_netScore_41 : decode cX2_netScore 41 = .ok (.if_icmp .ge 8, 3) := by decide +kernel
theorem dX2_netScore_44 : decode cX2_netScore 44 = .ok (.iload 6, 2) := by decide +kernel
theorem dX2_netScore_46 : decode cX2_netScore 46 = .ok (.goto 5, 3) := by decide +kernel
theorem dX2_netScore_49 : decode cX2_netScore 49 = .ok (.iload 4, 2) := by decide +kernel
theorem dX2_netScore_51 : decode cX2_netScore 51 = .ok (.istore 4, 2) := by decide +kernel
theorem dX2_netScore_53 : decode cX2_netScore 53 = .ok (.iinc 5 1, 3) := by decide +kernel
theorem dX2_netScore_56 : decode cX2_netScore 56 = .ok (.goto (-49), 3) := by decide +kernel
theorem dX2_netScore_59 : decode cX2_netScore 59 = .ok (.iload 4, 2) := by decide +kernel
theorem dX2_netScore_61 : decode cX2_netScore 61 = .ok (.ireturn, 1) := by decide +kernel
set_option maxRecDepth 20000 in
theorem ggX2_netChannelOf_X2_has : GoodIn wsX2_netChannelOf wsX2_has := goodIn_r _ [5] (by decide +kernel) (by decide +kernel)
set_option maxRecDepth 20000 in
theorem gX2_netChannelOf_X2_has : GoodIn wsX2_netChannelOf (va_wsS RX2 70 yX2_has wsX2_has) := goodIn_app (goodIn_of _ (by decide +kernel)) ggX2_netChannelOf_X2_has
set_option maxRecDepth 20000 in
theorem ggX2_netChannelOf_X2_netScore : GoodIn wsX2_netChannelOf wsX2_netScore := goodIn_r _ [9, 2, 3, 4, 5, 10, 11, 12, 13, 1, 14, 15, 16, 17, 18, 19, 20, 21, 22, 23] (by decide +kernel) (by decide +kernel)
set_option maxRecDepth 20000 in
theorem gX2_netChannelOf_X2_netScore : GoodIn wsX2_netChannelOf (wsV RX2 105 RX2 yX2_netScore wsX2_netScore) := goodIn_app (goodIn_of _ (by decide +kernel)) ggX2_netChannelOf_X2_netScore
theorem dX2_netChannelOf_0 : decode cX2_netChannelOf 0 = .ok (.iconst (-1), 1) := by decide +kernel
theorem dX2_netChannelOf_1 : decode cX2_netChannelOf 1 = .ok (.istore_n 3, 1) := by decide +kernel
theorem dX2_netChannelOf_2 : decode cX2_netChannelOf 2 = .ok (.iconst 0, 1) := by decide +kernel
theorem dX2_netChannelOf_3 : decode cX2_netChannelOf 3 = .ok (.istore 4, 2) := by decide +kernel
theorem dX2_netChannelOf_5 : decode cX2_netChannelOf 5 = .ok (.iload 4, 2) := by decide +kernel
theorem dX2_netChannelOf_7 : decode cX2_netChannelOf 7 = .ok (.bipush 8, 2) := by decide +kernel
theorem dX2_netChannelOf_9 : decode cX2_netChannelOf 9 = .ok (.if_icmp .ge 68, 3) := by decide +kernel
theorem dX2_netChannelOf_12 : decode cX2_netChannelOf 12 = .ok (.aload_n 0, 1) := by decide +kernel
theorem dX2_netChannelOf_13 : decode cX2_netChannelOf 13 = .ok (.getfield 7, 3) := by decide +kernel
theorem dX2_netChannelOf_16 : decode cX2_netChannelOf 16 = .ok (.bipush 9, 2) := by decide +kernel
theorem dX2_netChannelOf_18 : decode cX2_netChannelOf 18 = .ok (.iload_n 1, 1) := by decide +kernel
theorem dX2_netChannelOf_19 : decode cX2_netChannelOf 19 = .ok (.iadd, 1) := by decide +kernel
theorem dX2_netChannelOf_20 : decode cX2_netChannelOf 20 = .ok (.iaload, 1) := by decide +kernel
theorem dX2_netChannelOf_21 : decode cX2_netChannelOf 21 = .ok (.iload 4, 2) := by decide +kernel
theorem dX2_netChannelOf_23 : decode cX2_netChannelOf 23 = .ok (.invokestatic 70, 3) := by decide +kernel
theorem dX2_netChannelOf_26 : decode cX2_netChannelOf 26 = .ok (.ifCond .eq 30, 3) := by decide +kernel
theorem dX2_netChannelOf_29 : decode cX2_netChannelOf 29 = .ok (.iload_n 3, 1) := by decide +kernel
theorem dX2_netChannelOf_30 : decode cX2_netChannelOf 30 = .ok (.iconst (-1), 1) := by decide +kernel
theorem dX2_netChannelOf_31 : decode cX2_netChannelOf 31 = .ok (.if_icmp .eq 21, 3) := by decide +kernel
theorem dX2_netChannelOf_34 : decode cX2_netChannelOf 34 = .ok (.aload_n 0, 1) := by decide +kernel
theorem dX2_netChannelOf_35 : decode cX2_netChannelOf 35 = .ok (.iload_n 1, 1) := by decide +kernel
theorem dX2_netChannelOf_36 : decode cX2_netChannelOf 36 = .ok (.iload_n 2, 1) := by decide +kernel
theorem dX2_netChannelOf_37 : decode cX2_netChannelOf 37 = .ok (.iload 4, 2) := by decide +kernel
theorem dX2_netChannelOf_39 : decode cX2_netChannelOf 39 = .ok (.invokevirtual 105, 3) := by decide +kernel
theorem dX2_netChannelOf_42 : decode cX2_netChannelOf 42 = .ok (.aload_n 0, 1) := by decide +kernel
theorem dX2_netChannelOf_43 : decode cX2_netChannelOf 43 = .ok (.iload_n 1, 1) := by decide +kernel
theorem dX2_netChannelOf_44 : decode cX2_netChannelOf 44 = .ok (.iload_n 2, 1) := by decide +kernel
theorem dX2_netChannelOf_45 : decode cX2_netChannelOf 45 = .ok (.iload_n 3, 1) := by decide +kernel
theorem dX2_netChannelOf_46 : decode cX2_netChannelOf 46 = .ok (.invokevirtual 105, 3) := by decide +kernel
theorem dX2_netChannelOf_49 : decode cX2_netChannelOf 49 = .ok (.if_icmp .le 7, 3) := by decide +kernel
theorem dX2_netChannelOf_52 : decode cX2_netChannelOf 52 = .ok (.iconst 1, 1) := by decide +kernel
theorem dX2_netChannelOf_53 : decode cX2_netChannelOf 53 = .ok (.goto 4, 3) := by decide +kernel
theorem dX2_netChannelOf_56 : decode cX2_netChannelOf 56 = .ok (.iconst 0, 1) := by decide +kernel
theorem dX2_netChannelOf_57 : decode cX2_netChannelOf 57 = .ok (.istore 5, 2) := by decide +kernel
theorem dX2_netChannelOf_59 : decode cX2_netChannelOf 59 = .ok (.iload 5, 2) := by decide +kernel
theorem dX2_netChannelOf_61 : decode cX2_netChannelOf 61 = .ok (.ifCond .eq 8, 3) := by decide +kernel
theorem dX2_netChannelOf_64 : decode cX2_netChannelOf 64 = .ok (.iload 4, 2) := by decide +kernel
theorem dX2_netChannelOf_66 : decode cX2_netChannelOf 66 = .ok (.goto 4, 3) := by decide +kernel
theorem dX2_netChannelOf_69 : decode cX2_netChannelOf 69 = .ok (.iload_n 3, 1) := by decide +kernel
theorem dX2_netChannelOf_70 : decode cX2_netChannelOf 70 = .ok (.istore_n 3, 1) := by decide +kernel
theorem dX2_netChannelOf_71 : decode cX2_netChannelOf 71 = .ok (.iinc 4 1, 3) := by decide +kernel
theorem dX2_netChannelOf_74 : decode cX2_netChannelOf 74 = .ok (.goto (-69), 3) := by decide +kernel
theorem dX2_netChannelOf_77 : decode cX2_netChannelOf 77 = .ok (.iload_n 3, 1) := by decide +kernel
theorem dX2_netChannelOf_78 : decode cX2_netChannelOf 78 = .ok (.ireturn, 1) := by decide +kernel
set_option maxRecDepth 20000 in
theorem ggX2_isNet_X2_isStation : GoodIn wsX2_isNet wsX2_isStation := goodIn_r _ [4, 5, 6, 3, 7] (by decide +kernel) (by decide +kernel)
set_option maxRecDepth 20000 in
theorem gX2_isNet_X2_isStation : GoodIn wsX2_isNet (va_wsS RX2 37 yX2_isStation wsX2_isStation) := goodIn_app (goodIn_of _ (by decide +kernel)) ggX2_isNet_X2_isStation
set_option maxRecDepth 20000 in
theorem ggX2_isNet_X2_in : GoodIn wsX2_isNet wsX2_in := goodIn_r _ [7] (by decide +kernel) (by decide +kernel)
set_option maxRecDepth 20000 in
theorem gX2_isNet_X2_in : GoodIn wsX2_isNet (va_wsS RX2 33 yX2_in wsX2_in) := goodIn_app (goodIn_of _ (by decide +kernel)) ggX2_isNet_X2_in
set_option maxRecDepth 20000 in
theorem ggX2_isNet_X2_has : GoodIn wsX2_isNet wsX2_has := goodIn_r _ [10] (by decide +kernel) (by decide +kernel)
set_option maxRecDepth 20000 in
theorem gX2_isNet_X2_has : GoodIn wsX2_isNet (va_wsS RX2 70 yX2_has wsX2_has) := goodIn_app (goodIn_of _ (by decide +kernel)) ggX2_isNet_X2_has
theorem dX2_isNet_0 : decode cX2_isNet 0 = .ok (.iload_n 0, 1) := by decide +kernel
theorem dX2_isNet_1 : decode cX2_isNet 1 = .ok (.invokestatic 37, 3) := by decide +kernel
theorem dX2_isNet_4 : decode cX2_isNet 4 = .ok (.ifCond .eq 25, 3) := by decide +kernel
theorem dX2_isNet_7 : decode cX2_isNet 7 = .ok (.iload_n 1, 1) := by decide +kernel
theorem dX2_isNet_8 : decode cX2_isNet 8 = .ok (.iconst 1, 1) := by decide +kernel
theorem dX2_isNet_9 : decode cX2_isNet 9 = .ok (.bipush 31, 2) := by decide +kernel
theorem dX2_isNet_11 : decode cX2_isNet 11 = .ok (.invokestatic 33, 3) := by decide +kernel
theorem dX2_isNet_14 : decode cX2_isNet 14 = .ok (.ifCond .eq 15, 3) := by decide +kernel
theorem dX2_isNet_17 : decode cX2_isNet 17 = .ok (.iload_n 1, 1) := by decide +kernel
theorem dX2_isNet_18 : decode cX2_isNet 18 = .ok (.iload_n 0, 1) := by decide +kernel
theorem dX2_isNet_19 : decode cX2_isNet 19 = .ok (.invokestatic 70, 3) := by decide +kernel
theorem dX2_isNet_22 : decode cX2_isNet 22 = .ok (.ifCond .ne 7, 3) := by decide +kernel
theorem dX2_isNet_25 : decode cX2_isNet 25 = .ok (.iconst 1, 1) := by decide +kernel
theorem dX2_isNet_26 : decode cX2_isNet 26 = .ok (.goto 4, 3) := by decide +kernel
theorem dX2_isNet_29 : decode cX2_isNet 29 = .ok (.iconst 0, 1) := by decide +kernel
theorem dX2_isNet_30 : decode cX2_isNet 30 = .ok (.ireturn, 1) := by decide +kernel
set_option maxRecDepth 20000 in
theorem ggX2_answers_X2_has : GoodIn wsX2_answers wsX2_has := goodIn_r _ [5] (by decide +kernel) (by decide +kernel)
set_option maxRecDepth 20000 in
theorem gX2_answers_X2_has : GoodIn wsX2_answers (va_wsS RX2 70 yX2_has wsX2_has) := goodIn_app (goodIn_of _ (by decide +kernel)) ggX2_answers_X2_has
set_option maxRecDepth 20000 in
theorem ggX2_answers_X2_isLinked : GoodIn wsX2_answers wsX2_isLinked := goodIn_r _ [9, 1, 32, 33, 34, 35, 36, 37, 38] (by decide +kernel) (by decide +kernel)
set_option maxRecDepth 20000 in
theorem gX2_answers_X2_isLinked : GoodIn wsX2_answers (wsV RX2 79 RX2 yX2_isLinked wsX2_isLinked) := goodIn_app (goodIn_of _ (by decide +kernel)) ggX2_answers_X2_isLinked
set_option maxRecDepth 20000 in
theorem ggX2_answers_X2_transmit : GoodIn wsX2_answers wsX2_transmit := goodIn_r _ [13, 14, 1, 15, 16, 4, 17, 18, 19, 20, 21, 22, 23, 24, 25, 26, 27, 28, 2, 3, 5, 29, 30, 31, 32, 33, 34, 35, 36, 37, 38] (by decide +kernel) (by decide +kernel)
set_option maxRecDepth 20000 in
theorem gX2_answers_X2_transmit : GoodIn wsX2_answers (wsV RX2 88 RX2 yX2_transmit wsX2_transmit) := goodIn_app (goodIn_of _ (by decide +kernel)) ggX2_answers_X2_transmit
theorem dX2_answers_0 : decode cX2_answers 0 = .ok (.aload_n 0, 1) := by decide +kernel
theorem dX2_answers_1 : decode cX2_answers 1 = .ok (.getfield 7, 3) := by decide +kernel
theorem dX2_answers_4 : decode cX2_answers 4 = .ok (.bipush 9, 2) := by decide +kernel
theorem dX2_answers_6 : decode cX2_answers 6 = .ok (.iload_n 2, 1) := by decide +kernel
theorem dX2_answers_7 : decode cX2_answers 7 = .ok (.iadd, 1) := by decide +kernel
theorem dX2_answers_8 : decode cX2_answers 8 = .ok (.iaload, 1) := by decide +kernel
theorem dX2_answers_9 : decode cX2_answers 9 = .ok (.iload_n 3, 1) := by decide +kernel
theorem dX2_answers_10 : decode cX2_answers 10 = .ok (.invokestatic 70, 3) := by decide +kernel
theorem dX2_answers_13 : decode cX2_answers 13 = .ok (.ifCond .eq 25, 3) := by decide +kernel
theorem dX2_answers_16 : decode cX2_answers 16 = .ok (.aload_n 0, 1) := by decide +kernel
theorem dX2_answers_17 : decode cX2_answers 17 = .ok (.iload_n 2, 1) := by decide +kernel
theorem dX2_answers_18 : decode cX2_answers 18 = .ok (.invokevirtual 79, 3) := by decide +kernel
theorem dX2_answers_21 : decode cX2_answers 21 = .ok (.ifCond .ne 17, 3) := by decide +kernel
theorem dX2_answers_24 : decode cX2_answers 24 = .ok (.aload_n 0, 1) := by decide +kernel
theorem dX2_answers_25 : decode cX2_answers 25 = .ok (.iconst 2, 1) := by decide +kernel
theorem dX2_answers_26 : decode cX2_answers 26 = .ok (.iload_n 1, 1) := by decide +kernel
theorem dX2_answers_27 : decode cX2_answers 27 = .ok (.iload_n 2, 1) := by decide +kernel
theorem dX2_answers_28 : decode cX2_answers 28 = .ok (.sipush 255, 3) := by decide +kernel
theorem dX2_answers_31 : decode cX2_answers 31 = .ok (.iload_n 3, 1) := by decide +kernel
theorem dX2_answers_32 : decode cX2_answers 32 = .ok (.invokevirtual 88, 3) := by decide +kernel
theorem dX2_answers_35 : decode cX2_answers 35 = .ok (.ifCond .ne 5, 3) := by decide +kernel
theorem dX2_answers_38 : decode cX2_answers 38 = .ok (.iconst 0, 1) := by decide +kernel
theorem dX2_answers_39 : decode cX2_answers 39 = .ok (.ireturn, 1) := by decide +kernel
theorem dX2_answers_40 : decode cX2_answers 40 = .ok (.aload_n 0, 1) := by decide +kernel
theorem dX2_answers_41 : decode cX2_answers 41 = .ok (.getfield 7, 3) := by decide +kernel
theorem dX2_answers_44 : decode cX2_answers 44 = .ok (.iconst 0, 1) := by decide +kernel
theorem dX2_answers_45 : decode cX2_answers 45 = .ok (.dup2, 1) := by decide +kernel
theorem dX2_answers_46 : decode cX2_answers 46 = .ok (.iaload, 1) := by decide +kernel
theorem dX2_answers_47 : decode cX2_answers 47 = .ok (.iconst 1, 1) := by decide +kernel
theorem dX2_answers_48 : decode cX2_answers 48 = .ok (.iadd, 1) := by decide +kernel
theorem dX2_answers_49 : decode cX2_answers 49 = .ok (.iastore, 1) := by decide +kernel
theorem dX2_answers_50 : decode cX2_answers 50 = .ok (.aload_n 0, 1) := by decide +kernel
theorem dX2_answers_51 : decode cX2_answers 51 = .ok (.iconst 3, 1) := by decide +kernel
theorem dX2_answers_52 : decode cX2_answers 52 = .ok (.iload_n 2, 1) := by decide +kernel
theorem dX2_answers_53 : decode cX2_answers 53 = .ok (.iload_n 1, 1) := by decide +kernel
theorem dX2_answers_54 : decode cX2_answers 54 = .ok (.iload_n 1, 1) := by decide +kernel
theorem dX2_answers_55 : decode cX2_answers 55 = .ok (.iload_n 3, 1) := by decide +kernel
theorem dX2_answers_56 : decode cX2_answers 56 = .ok (.invokevirtual 88, 3) := by decide +kernel
theorem dX2_answers_59 : decode cX2_answers 59 = .ok (.ireturn, 1) := by decide +kernel
set_option maxRecDepth 20000 in
theorem ggX2_netCall_X2_isNet : GoodIn wsX2_netCall wsX2_isNet := goodIn_r _ [5, 6, 7, 4, 8, 9, 10, 11, 12, 13, 14] (by decide +kernel) (by decide +kernel)
set_option maxRecDepth 20000 in
theorem gX2_netCall_X2_isNet : GoodIn wsX2_netCall (va_wsS RX2 108 yX2_isNet wsX2_isNet) := goodIn_app (goodIn_of _ (by decide +kernel)) ggX2_netCall_X2_isNet
set_option maxRecDepth 20000 in
theorem ggX2_netCall_X2_fail : GoodIn wsX2_netCall wsX2_fail := goodIn_r _ [18, 19, 79, 80, 81, 82, 83, 84, 85] (by decide +kernel) (by decide +kernel)
set_option maxRecDepth 20000 in
theorem gX2_netCall_X2_fail : GoodIn wsX2_netCall (wsV RX2 29 RX2 yX2_fail wsX2_fail) := goodIn_app (goodIn_of _ (by decide +kernel)) ggX2_netCall_X2_fail
set_option maxRecDepth 20000 in
theorem ggX2_netCall_X2_isLinked : GoodIn wsX2_netCall wsX2_isLinked := goodIn_r _ [23, 1, 79, 80, 81, 82, 83, 84, 85] (by decide +kernel) (by decide +kernel)
set_option maxRecDepth 20000 in
theorem gX2_netCall_X2_isLinked : GoodIn wsX2_netCall (wsV RX2 79 RX2 yX2_isLinked wsX2_isLinked) := goodIn_app (goodIn_of _ (by decide +kernel)) ggX2_netCall_X2_isLinked
set_option maxRecDepth 20000 in
theorem ggX2_netCall_X2_note : GoodIn wsX2_netCall wsX2_note := goodIn_r _ [27, 28, 29, 1, 79, 80, 81, 82, 83, 84, 85] (by decide +kernel) (by decide +kernel)
set_option maxRecDepth 20000 in
theorem gX2_netCall_X2_note : GoodIn wsX2_netCall (wsV RX2 41 RX2 yX2_note wsX2_note) := goodIn_app (goodIn_of _ (by decide +kernel)) ggX2_netCall_X2_note
set_option maxRecDepth 20000 in
theorem ggX2_netCall_X2_netChannelOf : GoodIn wsX2_netCall wsX2_netChannelOf := goodIn_r _ [33, 1, 12, 13, 4, 14, 34, 35, 36, 37, 38, 39, 40, 41, 42, 43, 44, 79, 80, 81, 82, 83, 84, 85] (by decide +kernel) (by decide +kernel)
set_option maxRecDepth 20000 in
theorem gX2_netCall_X2_netChannelOf : GoodIn wsX2_netCall (wsV RX2 111 RX2 yX2_netChannelOf wsX2_netChannelOf) := goodIn_app (goodIn_of _ (by decide +kernel)) ggX2_netCall_X2_netChannelOf
set_option maxRecDepth 20000 in
theorem ggX2_netCall_X2_mostOf : GoodIn wsX2_netCall wsX2_mostOf := goodIn_r _ [48, 1, 12, 13, 4, 14, 49, 50, 51, 79, 80, 81, 82, 83, 84, 85] (by decide +kernel) (by decide +kernel)
set_option maxRecDepth 20000 in
theorem gX2_netCall_X2_mostOf : GoodIn wsX2_netCall (wsV RX2 82 RX2 yX2_mostOf wsX2_mostOf) := goodIn_app (goodIn_of _ (by decide +kernel)) ggX2_netCall_X2_mostOf
set_option maxRecDepth 20000 in
theorem ggX2_netCall_X2_has : GoodIn wsX2_netCall wsX2_has := goodIn_r _ [14] (by decide +kernel) (by decide +kernel)
set_option maxRecDepth 20000 in
theorem gX2_netCall_X2_has : GoodIn wsX2_netCall (va_wsS RX2 70 yX2_has wsX2_has) := goodIn_app (goodIn_of _ (by decide +kernel)) ggX2_netCall_X2_has
set_option maxRecDepth 20000 in
theorem ggX2_netCall_X2_answers : GoodIn wsX2_netCall wsX2_answers := goodIn_r _ [55, 1, 12, 13, 4, 14, 20, 21, 22, 23, 56, 57, 58, 59, 60, 42, 43, 44, 61, 62, 63, 64, 65, 66, 67, 68, 69, 70, 71, 72, 73, 74, 79, 80, 81, 82, 83, 84, 85] (by decide +kernel) (by decide +kernel)
set_option maxRecDepth 20000 in
theorem gX2_netCall_X2_answers : GoodIn wsX2_netCall (wsV RX2 114 RX2 yX2_answers wsX2_answers) := goodIn_app (goodIn_of _ (by decide +kernel)) ggX2_netCall_X2_answers
set_option maxRecDepth 20000 in
theorem ggX2_netCall_X2_transmit : GoodIn wsX2_netCall wsX2_transmit := goodIn_r _ [59, 60, 1, 42, 43, 4, 44, 61, 62, 63, 64, 65, 66, 67, 68, 69, 70, 71, 12, 13, 14, 72, 73, 74, 79, 80, 81, 82, 83, 84, 85] (by decide +kernel) (by decide +kernel)
set_option maxRecDepth 20000 in
theorem gX2_netCall_X2_transmit : GoodIn wsX2_netCall (wsV RX2 88 RX2 yX2_transmit wsX2_transmit) := goodIn_app (goodIn_of _ (by decide +kernel)) ggX2_netCall_X2_transmit
set_option maxRecDepth 20000 in
theorem ggX2_netCall_X2_join : GoodIn wsX2_netCall wsX2_join := goodIn_r _ [78, 1, 12, 13, 4, 14, 79, 80, 81, 82, 83, 84, 85] (by decide +kernel) (by decide +kernel)
set_option maxRecDepth 20000 in
theorem gX2_netCall_X2_join : GoodIn wsX2_netCall (wsV RX2 101 RX2 yX2_join wsX2_join) := goodIn_app (goodIn_of _ (by decide +kernel)) ggX2_netCall_X2_join
theorem dX2_netCall_0 : decode cX2_netCall 0 = .ok (.iload_n 1, 1) := by decide +kernel
theorem dX2_netCall_1 : decode cX2_netCall 1 = .ok (.iload_n 2, 1) := by decide +kernel
theorem dX2_netCall_2 : decode cX2_netCall 2 = .ok (.invokestatic 108, 3) := by decide +kernel
theorem dX2_netCall_5 : decode cX2_netCall 5 = .ok (.ifCond .ne 10, 3) := by decide +kernel
theorem dX2_netCall_8 : decode cX2_netCall 8 = .ok (.aload_n 0, 1) := by decide +kernel
theorem dX2_netCall_9 : decode cX2_netCall 9 = .ok (.bipush (-2), 2) := by decide +kernel
theorem dX2_netCall_11 : decode cX2_netCall 11 = .ok (.invokevirtual 29, 3) := by decide +kernel
theorem dX2_netCall_14 : decode cX2_netCall 14 = .ok (.ireturn, 1) := by decide +kernel
theorem dX2_netCall_15 : decode cX2_netCall 15 = .ok (.aload_n 0, 1) := by decide +kernel
theorem dX2_netCall_16 : decode cX2_netCall 16 = .ok (.iload_n 1, 1) := by decide +kernel
theorem dX2_netCall_17 : decode cX2_netCall 17 = .ok (.invokevirtual 79, 3) := by decide +kernel
theorem dX2_netCall_20 : decode cX2_netCall 20 = .ok (.ifCond .eq 10, 3) := by decide +kernel
theorem dX2_netCall_23 : decode cX2_netCall 23 = .ok (.aload_n 0, 1) := by decide +kernel
theorem dX2_netCall_24 : decode cX2_netCall 24 = .ok (.bipush (-3), 2) := by decide +kernel
theorem dX2_netCall_26 : decode cX2_netCall 26 = .ok (.invokevirtual 29, 3) := by decide +kernel
theorem dX2_netCall_29 : decode cX2_netCall 29 = .ok (.ireturn, 1) := by decide +kernel
theorem dX2_netCall_30 : decode cX2_netCall 30 = .ok (.aload_n 0, 1) := by decide +kernel
theorem dX2_netCall_31 : decode cX2_netCall 31 = .ok (.invokevirtual 41, 3) := by decide +kernel
theorem dX2_netCall_34 : decode cX2_netCall 34 = .ok (.aload_n 0, 1) := by decide +kernel
theorem dX2_netCall_35 : decode cX2_netCall 35 = .ok (.iload_n 1, 1) := by decide +kernel
theorem dX2_netCall_36 : decode cX2_netCall 36 = .ok (.iload_n 2, 1) := by decide +kernel
theorem dX2_netCall_37 : decode cX2_netCall 37 = .ok (.invokevirtual 111, 3) := by decide +kernel
theorem dX2_netCall_40 : decode cX2_netCall 40 = .ok (.istore_n 3, 1) := by decide +kernel
theorem dX2_netCall_41 : decode cX2_netCall 41 = .ok (.aload_n 0, 1) := by decide +kernel
theorem dX2_netCall_42 : decode cX2_netCall 42 = .ok (.getfield 7, 3) := by decide +kernel
theorem dX2_netCall_45 : decode cX2_netCall 45 = .ok (.iconst 5, 1) := by decide +kernel
theorem dX2_netCall_46 : decode cX2_netCall 46 = .ok (.iconst 1, 1) := by decide +kernel
theorem dX2_netCall_47 : decode cX2_netCall 47 = .ok (.iastore, 1) := by decide +kernel
theorem dX2_netCall_48 : decode cX2_netCall 48 = .ok (.aload_n 0, 1) := by decide +kernel
theorem dX2_netCall_49 : decode cX2_netCall 49 = .ok (.getfield 7, 3) := by decide +kernel
theorem dX2_netCall_52 : decode cX2_netCall 52 = .ok (.bipush 6, 2) := by decide +kernel
theorem dX2_netCall_54 : decode cX2_netCall 54 = .ok (.iload_n 3, 1) := by decide +kernel
theorem dX2_netCall_55 : decode cX2_netCall 55 = .ok (.iastore, 1) := by decide +kernel
theorem dX2_netCall_56 : decode cX2_netCall 56 = .ok (.aload_n 0, 1) := by decide +kernel
theorem dX2_netCall_57 : decode cX2_netCall 57 = .ok (.getfield 7, 3) := by decide +kernel
theorem dX2_netCall_60 : decode cX2_netCall 60 = .ok (.iconst 0, 1) := by decide +kernel
theorem dX2_netCall_61 : decode cX2_netCall 61 = .ok (.dup2, 1) := by decide +kernel
theorem dX2_netCall_62 : decode cX2_netCall 62 = .ok (.iaload, 1) := by decide +kernel
theorem dX2_netCall_63 : decode cX2_netCall 63 = .ok (.aload_n 0, 1) := by decide +kernel
theorem dX2_netCall_64 : decode cX2_netCall 64 = .ok (.iload_n 2, 1) := by decide +kernel
theorem dX2_netCall_65 : decode cX2_netCall 65 = .ok (.invokevirtual 82, 3) := by decide +kernel
theorem dX2_netCall_68 : decode cX2_netCall 68 = .ok (.iadd, 1) := by decide +kernel
theorem dX2_netCall_69 : decode cX2_netCall 69 = .ok (.iastore, 1) := by decide +kernel
theorem dX2_netCall_70 : decode cX2_netCall 70 = .ok (.iconst 0, 1) := by decide +kernel
theorem dX2_netCall_71 : decode cX2_netCall 71 = .ok (.istore 4, 2) := by decide +kernel
theorem dX2_netCall_73 : decode cX2_netCall 73 = .ok (.iconst 0, 1) := by decide +kernel
theorem dX2_netCall_74 : decode cX2_netCall 74 = .ok (.istore 5, 2) := by decide +kernel
theorem dX2_netCall_76 : decode cX2_netCall 76 = .ok (.iload 5, 2) := by decide +kernel
theorem dX2_netCall_78 : decode cX2_netCall 78 = .ok (.iconst 5, 1) := by decide +kernel
theorem dX2_netCall_79 : decode cX2_netCall 79 = .ok (.if_icmp .ge 38, 3) := by decide +kernel
theorem dX2_netCall_82 : decode cX2_netCall 82 = .ok (.iload_n 2, 1) := by decide +kernel
theorem dX2_netCall_83 : decode cX2_netCall 83 = .ok (.iload 5, 2) := by decide +kernel
theorem dX2_netCall_85 : decode cX2_netCall 85 = .ok (.invokestatic 70, 3) := by decide +kernel
theorem dX2_netCall_88 : decode cX2_netCall 88 = .ok (.ifCond .eq 23, 3) := by decide +kernel
theorem dX2_netCall_91 : decode cX2_netCall 91 = .ok (.aload_n 0, 1) := by decide +kernel
theorem dX2_netCall_92 : decode cX2_netCall 92 = .ok (.iload_n 1, 1) := by decide +kernel
theorem dX2_netCall_93 : decode cX2_netCall 93 = .ok (.iload 5, 2) := by decide +kernel
theorem dX2_netCall_95 : decode cX2_netCall 95 = .ok (.iload_n 3, 1) := by decide +kernel
theorem dX2_netCall_96 : decode cX2_netCall 96 = .ok (.invokevirtual 114, 3) := by decide +kernel
theorem dX2_netCall_99 : decode cX2_netCall 99 = .ok (.ifCond .eq 12, 3) := by decide +kernel
theorem dX2_netCall_102 : decode cX2_netCall 102 = .ok (.iload 4, 2) := by decide +kernel
theorem dX2_netCall_104 : decode cX2_netCall 104 = .ok (.iconst 1, 1) := by decide +kernel
theorem dX2_netCall_105 : decode cX2_netCall 105 = .ok (.iload 5, 2) := by decide +kernel
theorem dX2_netCall_107 : decode cX2_netCall 107 = .ok (.ishl, 1) := by decide +kernel
theorem dX2_netCall_108 : decode cX2_netCall 108 = .ok (.ior, 1) := by decide +kernel
theorem dX2_netCall_109 : decode cX2_netCall 109 = .ok (.istore 4, 2) := by decide +kernel
theorem dX2_netCall_111 : decode cX2_netCall 111 = .ok (.iinc 5 1, 3) := by decide +kernel
theorem dX2_netCall_114 : decode cX2_netCall 114 = .ok (.goto (-38), 3) := by decide +kernel
theorem dX2_netCall_117 : decode cX2_netCall 117 = .ok (.aload_n 0, 1) := by decide +kernel
theorem dX2_netCall_118 : decode cX2_netCall 118 = .ok (.getfield 7, 3) := by decide +kernel
theorem dX2_netCall_121 : decode cX2_netCall 121 = .ok (.iconst 0, 1) := by decide +kernel
theorem dX2_netCall_122 : decode cX2_netCall 122 = .ok (.dup2, 1) := by decide +kernel
theorem dX2_netCall_123 : decode cX2_netCall 123 = .ok (.iaload, 1) := by decide +kernel
theorem dX2_netCall_124 : decode cX2_netCall 124 = .ok (.iconst 1, 1) := by decide +kernel
theorem dX2_netCall_125 : decode cX2_netCall 125 = .ok (.iadd, 1) := by decide +kernel
theorem dX2_netCall_126 : decode cX2_netCall 126 = .ok (.iastore, 1) := by decide +kernel
theorem dX2_netCall_127 : decode cX2_netCall 127 = .ok (.iconst 0, 1) := by decide +kernel
theorem dX2_netCall_128 : decode cX2_netCall 128 = .ok (.istore 5, 2) := by decide +kernel
theorem dX2_netCall_130 : decode cX2_netCall 130 = .ok (.iconst 0, 1) := by decide +kernel
theorem dX2_netCall_131 : decode cX2_netCall 131 = .ok (.istore 6, 2) := by decide +kernel
theorem dX2_netCall_133 : decode cX2_netCall 133 = .ok (.iload 6, 2) := by decide +kernel
theorem dX2_netCall_135 : decode cX2_netCall 135 = .ok (.iconst 5, 1) := by decide +kernel
theorem dX2_netCall_136 : decode cX2_netCall 136 = .ok (.if_icmp .ge 43, 3) := by decide +kernel
theorem dX2_netCall_139 : decode cX2_netCall 139 = .ok (.iload 4, 2) := by decide +kernel
theorem dX2_netCall_141 : decode cX2_netCall 141 = .ok (.iload 6, 2) := by decide +kernel
theorem dX2_netCall_143 : decode cX2_netCall 143 = .ok (.invokestatic 70, 3) := by decide +kernel
theorem dX2_netCall_146 : decode cX2_netCall 146 = .ok (.ifCond .eq 27, 3) := by decide +kernel
theorem dX2_netCall_149 : decode cX2_netCall 149 = .ok (.aload_n 0, 1) := by decide +kernel
theorem dX2_netCall_150 : decode cX2_netCall 150 = .ok (.iconst 4, 1) := by decide +kernel
theorem dX2_netCall_151 : decode cX2_netCall 151 = .ok (.iload_n 1, 1) := by decide +kernel
theorem dX2_netCall_152 : decode cX2_netCall 152 = .ok (.iload 6, 2) := by decide +kernel
theorem dX2_netCall_154 : decode cX2_netCall 154 = .ok (.sipush 255, 3) := by decide +kernel
theorem dX2_netCall_157 : decode cX2_netCall 157 = .ok (.iload_n 3, 1) := by decide +kernel
theorem dX2_netCall_158 : decode cX2_netCall 158 = .ok (.invokevirtual 88, 3) := by decide +kernel
theorem dX2_netCall_161 : decode cX2_netCall 161 = .ok (.ifCond .eq 12, 3) := by decide +kernel
theorem dX2_netCall_164 : decode cX2_netCall 164 = .ok (.iload 5, 2) := by decide +kernel
theorem dX2_netCall_166 : decode cX2_netCall 166 = .ok (.iconst 1, 1) := by decide +kernel
theorem dX2_netCall_167 : decode cX2_netCall 167 = .ok (.iload 6, 2) := by decide +kernel
theorem dX2_netCall_169 : decode cX2_netCall 169 = .ok (.ishl, 1) := by decide +kernel
theorem dX2_netCall_170 : decode cX2_netCall 170 = .ok (.ior, 1) := by decide +kernel
theorem dX2_netCall_171 : decode cX2_netCall 171 = .ok (.istore 5, 2) := by decide +kernel
theorem dX2_netCall_173 : decode cX2_netCall 173 = .ok (.iinc 6 1, 3) := by decide +kernel
theorem dX2_netCall_176 : decode cX2_netCall 176 = .ok (.goto (-43), 3) := by decide +kernel
theorem dX2_netCall_179 : decode cX2_netCall 179 = .ok (.iload 5, 2) := by decide +kernel
theorem dX2_netCall_181 : decode cX2_netCall 181 = .ok (.ifCond .eq 14, 3) := by decide +kernel
theorem dX2_netCall_184 : decode cX2_netCall 184 = .ok (.aload_n 0, 1) := by decide +kernel
theorem dX2_netCall_185 : decode cX2_netCall 185 = .ok (.iload 5, 2) := by decide +kernel
theorem dX2_netCall_187 : decode cX2_netCall 187 = .ok (.iconst 1, 1) := by decide +kernel
theorem dX2_netCall_188 : decode cX2_netCall 188 = .ok (.iload_n 1, 1) := by decide +kernel
theorem dX2_netCall_189 : decode cX2_netCall 189 = .ok (.ishl, 1) := by decide +kernel
theorem dX2_netCall_190 : decode cX2_netCall 190 = .ok (.ior, 1) := by decide +kernel
theorem dX2_netCall_191 : decode cX2_netCall 191 = .ok (.iload_n 3, 1) := by decide +kernel
theorem dX2_netCall_192 : decode cX2_netCall 192 = .ok (.invokevirtual 101, 3) := by decide +kernel
theorem dX2_netCall_195 : decode cX2_netCall 195 = .ok (.iload 5, 2) := by decide +kernel
theorem dX2_netCall_197 : decode cX2_netCall 197 = .ok (.ireturn, 1) := by decide +kernel
theorem dX2_leave_0 : decode cX2_leave 0 = .ok (.aload_n 0, 1) := by decide +kernel
theorem dX2_leave_1 : decode cX2_leave 1 = .ok (.getfield 7, 3) := by decide +kernel
theorem dX2_leave_4 : decode cX2_leave 4 = .ok (.bipush 14, 2) := by decide +kernel
theorem dX2_leave_6 : decode cX2_leave 6 = .ok (.iload_n 1, 1) := by decide +kernel
theorem dX2_leave_7 : decode cX2_leave 7 = .ok (.iadd, 1) := by decide +kernel
theorem dX2_leave_8 : decode cX2_leave 8 = .ok (.iconst 0, 1) := by decide +kernel
theorem dX2_leave_9 : decode cX2_leave 9 = .ok (.iastore, 1) := by decide +kernel
theorem dX2_leave_10 : decode cX2_leave 10 = .ok (.aload_n 0, 1) := by decide +kernel
theorem dX2_leave_11 : decode cX2_leave 11 = .ok (.getfield 7, 3) := by decide +kernel
theorem dX2_leave_14 : decode cX2_leave 14 = .ok (.bipush 19, 2) := by decide +kernel
theorem dX2_leave_16 : decode cX2_leave 16 = .ok (.iload_n 1, 1) := by decide +kernel
theorem dX2_leave_17 : decode cX2_leave 17 = .ok (.iadd, 1) := by decide +kernel
theorem dX2_leave_18 : decode cX2_leave 18 = .ok (.iconst (-1), 1) := by decide +kernel
theorem dX2_leave_19 : decode cX2_leave 19 = .ok (.iastore, 1) := by decide +kernel
theorem dX2_leave_20 : decode cX2_leave 20 = .ok (.return_, 1) := by decide +kernel
set_option maxRecDepth 20000 in
theorem ggX2_hangUp_X2_isStation : GoodIn wsX2_hangUp wsX2_isStation := goodIn_r _ [5, 6, 7, 4, 8] (by decide +kernel) (by decide +kernel)
set_option maxRecDepth 20000 in
theorem gX2_hangUp_X2_isStation : GoodIn wsX2_hangUp (va_wsS RX2 37 yX2_isStation wsX2_isStation) := goodIn_app (goodIn_of _ (by decide +kernel)) ggX2_hangUp_X2_isStation
set_option maxRecDepth 20000 in
theorem ggX2_hangUp_X2_fail : GoodIn wsX2_hangUp wsX2_fail := goodIn_r _ [12, 13, 34, 35, 36, 37, 38, 39, 40] (by decide +kernel) (by decide +kernel)
set_option maxRecDepth 20000 in
theorem gX2_hangUp_X2_fail : GoodIn wsX2_hangUp (wsV RX2 29 RX2 yX2_fail wsX2_fail) := goodIn_app (goodIn_of _ (by decide +kernel)) ggX2_hangUp_X2_fail
set_option maxRecDepth 20000 in
theorem ggX2_hangUp_X2_isLinked : GoodIn wsX2_hangUp wsX2_isLinked := goodIn_r _ [17, 1, 34, 35, 36, 37, 38, 39, 40] (by decide +kernel) (by decide +kernel)
set_option maxRecDepth 20000 in
theorem gX2_hangUp_X2_isLinked : GoodIn wsX2_hangUp (wsV RX2 79 RX2 yX2_isLinked wsX2_isLinked) := goodIn_app (goodIn_of _ (by decide +kernel)) ggX2_hangUp_X2_isLinked
set_option maxRecDepth 20000 in
theorem ggX2_hangUp_X2_note : GoodIn wsX2_hangUp wsX2_note := goodIn_r _ [21, 22, 23, 1, 34, 35, 36, 37, 38, 39, 40] (by decide +kernel) (by decide +kernel)
set_option maxRecDepth 20000 in
theorem gX2_hangUp_X2_note : GoodIn wsX2_hangUp (wsV RX2 41 RX2 yX2_note wsX2_note) := goodIn_app (goodIn_of _ (by decide +kernel)) ggX2_hangUp_X2_note
set_option maxRecDepth 20000 in
theorem ggX2_hangUp_X2_leave : GoodIn wsX2_hangUp wsX2_leave := goodIn_r _ [27, 1, 34, 35, 36, 37, 38, 39, 40] (by decide +kernel) (by decide +kernel)
set_option maxRecDepth 20000 in
theorem gX2_hangUp_X2_leave : GoodIn wsX2_hangUp (wsV RX2 117 RX2 yX2_leave wsX2_leave) := goodIn_app (goodIn_of _ (by decide +kernel)) ggX2_hangUp_X2_leave
set_option maxRecDepth 20000 in
theorem ggX2_hangUp_X2_count : GoodIn wsX2_hangUp wsX2_count := goodIn_r _ [30] (by decide +kernel) (by decide +kernel)
set_option maxRecDepth 20000 in
theorem gX2_hangUp_X2_count : GoodIn wsX2_hangUp (va_wsS RX2 76 yX2_count wsX2_count) := goodIn_app (goodIn_of _ (by decide +kernel)) ggX2_hangUp_X2_count
set_option maxRecDepth 20000 in
theorem ggX2_hangUp_X2_has : GoodIn wsX2_hangUp wsX2_has := goodIn_r _ [33] (by decide +kernel) (by decide +kernel)
set_option maxRecDepth 20000 in
theorem gX2_hangUp_X2_has : GoodIn wsX2_hangUp (va_wsS RX2 70 yX2_has wsX2_has) := goodIn_app (goodIn_of _ (by decide +kernel)) ggX2_hangUp_X2_has
theorem dX2_hangUp_0 : decode cX2_hangUp 0 = .ok (.iload_n 1, 1) := by decide +kernel
theorem dX2_hangUp_1 : decode cX2_hangUp 1 = .ok (.invokestatic 37, 3) := by decide +kernel
theorem dX2_hangUp_4 : decode cX2_hangUp 4 = .ok (.ifCond .ne 10, 3) := by decide +kernel
theorem dX2_hangUp_7 : decode cX2_hangUp 7 = .ok (.aload_n 0, 1) := by decide +kernel
theorem dX2_hangUp_8 : decode cX2_hangUp 8 = .ok (.bipush (-2), 2) := by decide +kernel
theorem dX2_hangUp_10 : decode cX2_hangUp 10 = .ok (.invokevirtual 29, 3) := by decide +kernel
theorem dX2_hangUp_13 : decode cX2_hangUp 13 = .ok (.ireturn, 1) := by decide +kernel
theorem dX2_hangUp_14 : decode cX2_hangUp 14 = .ok (.aload_n 0, 1) := by decide +kernel
theorem dX2_hangUp_15 : decode cX2_hangUp 15 = .ok (.iload_n 1, 1) := by decide +kernel
theorem dX2_hangUp_16 : decode cX2_hangUp 16 = .ok (.invokevirtual 79, 3) := by decide +kernel
theorem dX2_hangUp_19 : decode cX2_hangUp 19 = .ok (.ifCond .ne 10, 3) := by decide +kernel
theorem dX2_hangUp_22 : decode cX2_hangUp 22 = .ok (.aload_n 0, 1) := by decide +kernel
theorem dX2_hangUp_23 : decode cX2_hangUp 23 = .ok (.bipush (-3), 2) := by decide +kernel
theorem dX2_hangUp_25 : decode cX2_hangUp 25 = .ok (.invokevirtual 29, 3) := by decide +kernel
theorem dX2_hangUp_28 : decode cX2_hangUp 28 = .ok (.ireturn, 1) := by decide +kernel
theorem dX2_hangUp_29 : decode cX2_hangUp 29 = .ok (.aload_n 0, 1) := by decide +kernel
theorem dX2_hangUp_30 : decode cX2_hangUp 30 = .ok (.invokevirtual 41, 3) := by decide +kernel
theorem dX2_hangUp_33 : decode cX2_hangUp 33 = .ok (.aload_n 0, 1) := by decide +kernel
theorem dX2_hangUp_34 : decode cX2_hangUp 34 = .ok (.getfield 7, 3) := by decide +kernel
theorem dX2_hangUp_37 : decode cX2_hangUp 37 = .ok (.bipush 14, 2) := by decide +kernel
theorem dX2_hangUp_39 : decode cX2_hangUp 39 = .ok (.iload_n 1, 1) := by decide +kernel
theorem dX2_hangUp_40 : decode cX2_hangUp 40 = .ok (.iadd, 1) := by decide +kernel
theorem dX2_hangUp_41 : decode cX2_hangUp 41 = .ok (.iaload, 1) := by decide +kernel
theorem dX2_hangUp_42 : decode cX2_hangUp 42 = .ok (.iconst 1, 1) := by decide +kernel
theorem dX2_hangUp_43 : decode cX2_hangUp 43 = .ok (.iload_n 1, 1) := by decide +kernel
theorem dX2_hangUp_44 : decode cX2_hangUp 44 = .ok (.ishl, 1) := by decide +kernel
theorem dX2_hangUp_45 : decode cX2_hangUp 45 = .ok (.iconst (-1), 1) := by decide +kernel
theorem dX2_hangUp_46 : decode cX2_hangUp 46 = .ok (.ixor, 1) := by decide +kernel
theorem dX2_hangUp_47 : decode cX2_hangUp 47 = .ok (.iand, 1) := by decide +kernel
theorem dX2_hangUp_48 : decode cX2_hangUp 48 = .ok (.istore_n 2, 1) := by decide +kernel
theorem dX2_hangUp_49 : decode cX2_hangUp 49 = .ok (.aload_n 0, 1) := by decide +kernel
theorem dX2_hangUp_50 : decode cX2_hangUp 50 = .ok (.iload_n 1, 1) := by decide +kernel
theorem dX2_hangUp_51 : decode cX2_hangUp 51 = .ok (.invokevirtual 117, 3) := by decide +kernel
theorem dX2_hangUp_54 : decode cX2_hangUp 54 = .ok (.iload_n 2, 1) := by decide +kernel
theorem dX2_hangUp_55 : decode cX2_hangUp 55 = .ok (.invokestatic 76, 3) := by decide +kernel
theorem dX2_hangUp_58 : decode cX2_hangUp 58 = .ok (.iconst 2, 1) := by decide +kernel
theorem dX2_hangUp_59 : decode cX2_hangUp 59 = .ok (.if_icmp .ge 7, 3) := by decide +kernel
theorem dX2_hangUp_62 : decode cX2_hangUp 62 = .ok (.iconst 1, 1) := by decide +kernel
theorem dX2_hangUp_63 : decode cX2_hangUp 63 = .ok (.goto 4, 3) := by decide +kernel
theorem dX2_hangUp_66 : decode cX2_hangUp 66 = .ok (.iconst 0, 1) := by decide +kernel
theorem dX2_hangUp_67 : decode cX2_hangUp 67 = .ok (.istore_n 3, 1) := by decide +kernel
theorem dX2_hangUp_68 : decode cX2_hangUp 68 = .ok (.iconst 0, 1) := by decide +kernel
theorem dX2_hangUp_69 : decode cX2_hangUp 69 = .ok (.istore 4, 2) := by decide +kernel
theorem dX2_hangUp_71 : decode cX2_hangUp 71 = .ok (.iload 4, 2) := by decide +kernel
theorem dX2_hangUp_73 : decode cX2_hangUp 73 = .ok (.iconst 5, 1) := by decide +kernel
theorem dX2_hangUp_74 : decode cX2_hangUp 74 = .ok (.if_icmp .ge 39, 3) := by decide +kernel
theorem dX2_hangUp_77 : decode cX2_hangUp 77 = .ok (.iload_n 2, 1) := by decide +kernel
theorem dX2_hangUp_78 : decode cX2_hangUp 78 = .ok (.iload 4, 2) := by decide +kernel
theorem dX2_hangUp_80 : decode cX2_hangUp 80 = .ok (.invokestatic 70, 3) := by decide +kernel
theorem dX2_hangUp_83 : decode cX2_hangUp 83 = .ok (.ifCond .eq 24, 3) := by decide +kernel
theorem dX2_hangUp_86 : decode cX2_hangUp 86 = .ok (.aload_n 0, 1) := by decide +kernel
theorem dX2_hangUp_87 : decode cX2_hangUp 87 = .ok (.getfield 7, 3) := by decide +kernel
theorem dX2_hangUp_90 : decode cX2_hangUp 90 = .ok (.bipush 14, 2) := by decide +kernel
theorem dX2_hangUp_92 : decode cX2_hangUp 92 = .ok (.iload 4, 2) := by decide +kernel
theorem dX2_hangUp_94 : decode cX2_hangUp 94 = .ok (.iadd, 1) := by decide +kernel
theorem dX2_hangUp_95 : decode cX2_hangUp 95 = .ok (.iload_n 2, 1) := by decide +kernel
theorem dX2_hangUp_96 : decode cX2_hangUp 96 = .ok (.iastore, 1) := by decide +kernel
theorem dX2_hangUp_97 : decode cX2_hangUp 97 = .ok (.iload_n 3, 1) := by decide +kernel
theorem dX2_hangUp_98 : decode cX2_hangUp 98 = .ok (.ifCond .eq 9, 3) := by decide +kernel
theorem dX2_hangUp_101 : decode cX2_hangUp 101 = .ok (.aload_n 0, 1) := by decide +kernel
theorem dX2_hangUp_102 : decode cX2_hangUp 102 = .ok (.iload 4, 2) := by decide +kernel
theorem dX2_hangUp_104 : decode cX2_hangUp 104 = .ok (.invokevirtual 117, 3) := by decide +kernel
theorem dX2_hangUp_107 : decode cX2_hangUp 107 = .ok (.iinc 4 1, 3) := by decide +kernel
theorem dX2_hangUp_110 : decode cX2_hangUp 110 = .ok (.goto (-39), 3) := by decide +kernel
theorem dX2_hangUp_113 : decode cX2_hangUp 113 = .ok (.iload_n 3, 1) := by decide +kernel
theorem dX2_hangUp_114 : decode cX2_hangUp 114 = .ok (.ifCond .eq 7, 3) := by decide +kernel
theorem dX2_hangUp_117 : decode cX2_hangUp 117 = .ok (.iconst 0, 1) := by decide +kernel
theorem dX2_hangUp_118 : decode cX2_hangUp 118 = .ok (.goto 4, 3) := by decide +kernel
theorem dX2_hangUp_121 : decode cX2_hangUp 121 = .ok (.iload_n 2, 1) := by decide +kernel
theorem dX2_hangUp_122 : decode cX2_hangUp 122 = .ok (.ireturn, 1) := by decide +kernel
theorem dX2_attempts_0 : decode cX2_attempts 0 = .ok (.aload_n 0, 1) := by decide +kernel
theorem dX2_attempts_1 : decode cX2_attempts 1 = .ok (.getfield 7, 3) := by decide +kernel
theorem dX2_attempts_4 : decode cX2_attempts 4 = .ok (.iconst 5, 1) := by decide +kernel
theorem dX2_attempts_5 : decode cX2_attempts 5 = .ok (.iaload, 1) := by decide +kernel
theorem dX2_attempts_6 : decode cX2_attempts 6 = .ok (.ireturn, 1) := by decide +kernel
theorem dX2_lastChannel_0 : decode cX2_lastChannel 0 = .ok (.aload_n 0, 1) := by decide +kernel
theorem dX2_lastChannel_1 : decode cX2_lastChannel 1 = .ok (.getfield 7, 3) := by decide +kernel
theorem dX2_lastChannel_4 : decode cX2_lastChannel 4 = .ok (.bipush 6, 2) := by decide +kernel
theorem dX2_lastChannel_6 : decode cX2_lastChannel 6 = .ok (.iaload, 1) := by decide +kernel
theorem dX2_lastChannel_7 : decode cX2_lastChannel 7 = .ok (.ireturn, 1) := by decide +kernel
theorem dX2_lastUnanimous_0 : decode cX2_lastUnanimous 0 = .ok (.aload_n 0, 1) := by decide +kernel
theorem dX2_lastUnanimous_1 : decode cX2_lastUnanimous 1 = .ok (.getfield 7, 3) := by decide +kernel
theorem dX2_lastUnanimous_4 : decode cX2_lastUnanimous 4 = .ok (.bipush 7, 2) := by decide +kernel
theorem dX2_lastUnanimous_6 : decode cX2_lastUnanimous 6 = .ok (.iaload, 1) := by decide +kernel
theorem dX2_lastUnanimous_7 : decode cX2_lastUnanimous 7 = .ok (.ireturn, 1) := by decide +kernel
theorem dX2_lastVoted_0 : decode cX2_lastVoted 0 = .ok (.aload_n 0, 1) := by decide +kernel
theorem dX2_lastVoted_1 : decode cX2_lastVoted 1 = .ok (.getfield 7, 3) := by decide +kernel
theorem dX2_lastVoted_4 : decode cX2_lastVoted 4 = .ok (.bipush 8, 2) := by decide +kernel
theorem dX2_lastVoted_6 : decode cX2_lastVoted 6 = .ok (.iaload, 1) := by decide +kernel
theorem dX2_lastVoted_7 : decode cX2_lastVoted 7 = .ok (.ireturn, 1) := by decide +kernel
set_option maxRecDepth 20000 in
theorem ggX2_scan_X2_isStation : GoodIn wsX2_scan wsX2_isStation := goodIn_r _ [5, 6, 7, 4, 8] (by decide +kernel) (by decide +kernel)
set_option maxRecDepth 20000 in
theorem gX2_scan_X2_isStation : GoodIn wsX2_scan (va_wsS RX2 37 yX2_isStation wsX2_isStation) := goodIn_app (goodIn_of _ (by decide +kernel)) ggX2_scan_X2_isStation
set_option maxRecDepth 20000 in
theorem ggX2_scan_X2_fail : GoodIn wsX2_scan wsX2_fail := goodIn_r _ [12, 13, 14, 15, 16, 17, 18, 19, 20] (by decide +kernel) (by decide +kernel)
set_option maxRecDepth 20000 in
theorem gX2_scan_X2_fail : GoodIn wsX2_scan (wsV RX2 29 RX2 yX2_fail wsX2_fail) := goodIn_app (goodIn_of _ (by decide +kernel)) ggX2_scan_X2_fail
theorem dX2_scan_0 : decode cX2_scan 0 = .ok (.iload_n 1, 1) := by decide +kernel
theorem dX2_scan_1 : decode cX2_scan 1 = .ok (.invokestatic 37, 3) := by decide +kernel
theorem dX2_scan_4 : decode cX2_scan 4 = .ok (.ifCond .eq 15, 3) := by decide +kernel
theorem dX2_scan_7 : decode cX2_scan 7 = .ok (.aload_n 0, 1) := by decide +kernel
theorem dX2_scan_8 : decode cX2_scan 8 = .ok (.getfield 7, 3) := by decide +kernel
theorem dX2_scan_11 : decode cX2_scan 11 = .ok (.bipush 9, 2) := by decide +kernel
theorem dX2_scan_13 : decode cX2_scan 13 = .ok (.iload_n 1, 1) := by decide +kernel
theorem dX2_scan_14 : decode cX2_scan 14 = .ok (.iadd, 1) := by decide +kernel
theorem dX2_scan_15 : decode cX2_scan 15 = .ok (.iaload, 1) := by decide +kernel
theorem dX2_scan_16 : decode cX2_scan 16 = .ok (.goto 9, 3) := by decide +kernel
theorem dX2_scan_19 : decode cX2_scan 19 = .ok (.aload_n 0, 1) := by decide +kernel
theorem dX2_scan_20 : decode cX2_scan 20 = .ok (.bipush (-2), 2) := by decide +kernel
theorem dX2_scan_22 : decode cX2_scan 22 = .ok (.invokevirtual 29, 3) := by decide +kernel
theorem dX2_scan_25 : decode cX2_scan 25 = .ok (.ireturn, 1) := by decide +kernel
set_option maxRecDepth 20000 in
theorem ggX2_listening_X2_isStation : GoodIn wsX2_listening wsX2_isStation := goodIn_r _ [5, 6, 7, 4, 8] (by decide +kernel) (by decide +kernel)
set_option maxRecDepth 20000 in
theorem gX2_listening_X2_isStation : GoodIn wsX2_listening (va_wsS RX2 37 yX2_isStation wsX2_isStation) := goodIn_app (goodIn_of _ (by decide +kernel)) ggX2_listening_X2_isStation
set_option maxRecDepth 20000 in
theorem ggX2_listening_X2_fail : GoodIn wsX2_listening wsX2_fail := goodIn_r _ [12, 13, 28, 29, 30, 31, 32, 33, 34] (by decide +kernel) (by decide +kernel)
set_option maxRecDepth 20000 in
theorem gX2_listening_X2_fail : GoodIn wsX2_listening (wsV RX2 29 RX2 yX2_fail wsX2_fail) := goodIn_app (goodIn_of _ (by decide +kernel)) ggX2_listening_X2_fail
set_option maxRecDepth 20000 in
theorem ggX2_listening_X2_isLinked : GoodIn wsX2_listening wsX2_isLinked := goodIn_r _ [17, 1, 28, 29, 30, 31, 32, 33, 34] (by decide +kernel) (by decide +kernel)
set_option maxRecDepth 20000 in
theorem gX2_listening_X2_isLinked : GoodIn wsX2_listening (wsV RX2 79 RX2 yX2_isLinked wsX2_isLinked) := goodIn_app (goodIn_of _ (by decide +kernel)) ggX2_listening_X2_isLinked
set_option maxRecDepth 20000 in
theorem ggX2_listening_X2_listens : GoodIn wsX2_listening wsX2_listens := goodIn_r _ [21, 1, 22, 23, 4, 24, 25, 26, 27, 28, 29, 30, 31, 32, 33, 34] (by decide +kernel) (by decide +kernel)
set_option maxRecDepth 20000 in
theorem gX2_listening_X2_listens : GoodIn wsX2_listening (wsV RX2 85 RX2 yX2_listens wsX2_listens) := goodIn_app (goodIn_of _ (by decide +kernel)) ggX2_listening_X2_listens
theorem dX2_listening_0 : decode cX2_listening 0 = .ok (.iload_n 1, 1) := by decide +kernel
theorem dX2_listening_1 : decode cX2_listening 1 = .ok (.invokestatic 37, 3) := by decide +kernel
theorem dX2_listening_4 : decode cX2_listening 4 = .ok (.ifCond .ne 12, 3) := by decide +kernel
theorem dX2_listening_7 : decode cX2_listening 7 = .ok (.aload_n 0, 1) := by decide +kernel
theorem dX2_listening_8 : decode cX2_listening 8 = .ok (.bipush (-2), 2) := by decide +kernel
theorem dX2_listening_10 : decode cX2_listening 10 = .ok (.invokevirtual 29, 3) := by decide +kernel
theorem dX2_listening_13 : decode cX2_listening 13 = .ok (.goto 26, 3) := by decide +kernel
theorem dX2_listening_16 : decode cX2_listening 16 = .ok (.aload_n 0, 1) := by decide +kernel
theorem dX2_listening_17 : decode cX2_listening 17 = .ok (.iload_n 1, 1) := by decide +kernel
theorem dX2_listening_18 : decode cX2_listening 18 = .ok (.invokevirtual 79, 3) := by decide +kernel
theorem dX2_listening_21 : decode cX2_listening 21 = .ok (.ifCond .eq 7, 3) := by decide +kernel
theorem dX2_listening_24 : decode cX2_listening 24 = .ok (.iconst (-1), 1) := by decide +kernel
theorem dX2_listening_25 : decode cX2_listening 25 = .ok (.goto 14, 3) := by decide +kernel
theorem dX2_listening_28 : decode cX2_listening 28 = .ok (.aload_n 0, 1) := by decide +kernel
theorem dX2_listening_29 : decode cX2_listening 29 = .ok (.iload_n 1, 1) := by decide +kernel
theorem dX2_listening_30 : decode cX2_listening 30 = .ok (.aload_n 0, 1) := by decide +kernel
theorem dX2_listening_31 : decode cX2_listening 31 = .ok (.getfield 7, 3) := by decide +kernel
theorem dX2_listening_34 : decode cX2_listening 34 = .ok (.iconst 0, 1) := by decide +kernel
theorem dX2_listening_35 : decode cX2_listening 35 = .ok (.iaload, 1) := by decide +kernel
theorem dX2_listening_36 : decode cX2_listening 36 = .ok (.invokevirtual 85, 3) := by decide +kernel
theorem dX2_listening_39 : decode cX2_listening 39 = .ok (.ireturn, 1) := by decide +kernel
set_option maxRecDepth 20000 in
theorem ggX2_isThere_X2_arePair : GoodIn wsX2_isThere wsX2_arePair := goodIn_r _ [4, 5, 6, 3, 7, 8, 9, 10] (by decide +kernel) (by decide +kernel)
set_option maxRecDepth 20000 in
theorem gX2_isThere_X2_arePair : GoodIn wsX2_isThere (va_wsS RX2 44 yX2_arePair wsX2_arePair) := goodIn_app (goodIn_of _ (by decide +kernel)) ggX2_isThere_X2_arePair
set_option maxRecDepth 20000 in
theorem ggX2_isThere_X2_isChannel : GoodIn wsX2_isThere wsX2_isChannel := goodIn_r _ [13, 8, 9, 3, 10] (by decide +kernel) (by decide +kernel)
set_option maxRecDepth 20000 in
theorem gX2_isThere_X2_isChannel : GoodIn wsX2_isThere (va_wsS RX2 48 yX2_isChannel wsX2_isChannel) := goodIn_app (goodIn_of _ (by decide +kernel)) ggX2_isThere_X2_isChannel
theorem dX2_isThere_0 : decode cX2_isThere 0 = .ok (.iload_n 0, 1) := by decide +kernel
theorem dX2_isThere_1 : decode cX2_isThere 1 = .ok (.iload_n 1, 1) := by decide +kernel
theorem dX2_isThere_2 : decode cX2_isThere 2 = .ok (.invokestatic 44, 3) := by decide +kernel
theorem dX2_isThere_5 : decode cX2_isThere 5 = .ok (.ifCond .eq 14, 3) := by decide +kernel
theorem dX2_isThere_8 : decode cX2_isThere 8 = .ok (.iload_n 2, 1) := by decide +kernel
theorem dX2_isThere_9 : decode cX2_isThere 9 = .ok (.invokestatic 48, 3) := by decide +kernel
theorem dX2_isThere_12 : decode cX2_isThere 12 = .ok (.ifCond .eq 7, 3) := by decide +kernel
theorem dX2_isThere_15 : decode cX2_isThere 15 = .ok (.iconst 1, 1) := by decide +kernel
theorem dX2_isThere_16 : decode cX2_isThere 16 = .ok (.goto 4, 3) := by decide +kernel
theorem dX2_isThere_19 : decode cX2_isThere 19 = .ok (.iconst 0, 1) := by decide +kernel
theorem dX2_isThere_20 : decode cX2_isThere 20 = .ok (.ireturn, 1) := by decide +kernel
set_option maxRecDepth 20000 in
theorem ggX2_quality_X2_isThere : GoodIn wsX2_quality wsX2_isThere := goodIn_r _ [5, 6, 7, 4, 8, 9, 10, 11, 12, 13, 14, 15, 16, 17] (by decide +kernel) (by decide +kernel)
set_option maxRecDepth 20000 in
theorem gX2_quality_X2_isThere : GoodIn wsX2_quality (va_wsS RX2 121 yX2_isThere wsX2_isThere) := goodIn_app (goodIn_of _ (by decide +kernel)) ggX2_quality_X2_isThere
set_option maxRecDepth 20000 in
theorem ggX2_quality_X2_at : GoodIn wsX2_quality wsX2_at := goodIn_r _ [20] (by decide +kernel) (by decide +kernel)
set_option maxRecDepth 20000 in
theorem gX2_quality_X2_at : GoodIn wsX2_quality (va_wsS RX2 51 yX2_at wsX2_at) := goodIn_app (goodIn_of _ (by decide +kernel)) ggX2_quality_X2_at
set_option maxRecDepth 20000 in
theorem ggX2_quality_X2_fail : GoodIn wsX2_quality wsX2_fail := goodIn_r _ [24, 25, 26, 27, 28, 29, 30, 31, 32] (by decide +kernel) (by decide +kernel)
set_option maxRecDepth 20000 in
theorem gX2_quality_X2_fail : GoodIn wsX2_quality (wsV RX2 29 RX2 yX2_fail wsX2_fail) := goodIn_app (goodIn_of _ (by decide +kernel)) ggX2_quality_X2_fail
theorem dX2_quality_0 : decode cX2_quality 0 = .ok (.iload_n 1, 1) := by decide +kernel
theorem dX2_quality_1 : decode cX2_quality 1 = .ok (.iload_n 2, 1) := by decide +kernel
theorem dX2_quality_2 : decode cX2_quality 2 = .ok (.iload_n 3, 1) := by decide +kernel
theorem dX2_quality_3 : decode cX2_quality 3 = .ok (.invokestatic 121, 3) := by decide +kernel
theorem dX2_quality_6 : decode cX2_quality 6 = .ok (.ifCond .eq 20, 3) := by decide +kernel
theorem dX2_quality_9 : decode cX2_quality 9 = .ok (.aload_n 0, 1) := by decide +kernel
theorem dX2_quality_10 : decode cX2_quality 10 = .ok (.getfield 7, 3) := by decide +kernel
theorem dX2_quality_13 : decode cX2_quality 13 = .ok (.bipush 24, 2) := by decide +kernel
theorem dX2_quality_15 : decode cX2_quality 15 = .ok (.iload_n 1, 1) := by decide +kernel
theorem dX2_quality_16 : decode cX2_quality 16 = .ok (.iload_n 2, 1) := by decide +kernel
theorem dX2_quality_17 : decode cX2_quality 17 = .ok (.iload_n 3, 1) := by decide +kernel
theorem dX2_quality_18 : decode cX2_quality 18 = .ok (.invokestatic 51, 3) := by decide +kernel
theorem dX2_quality_21 : decode cX2_quality 21 = .ok (.iadd, 1) := by decide +kernel
theorem dX2_quality_22 : decode cX2_quality 22 = .ok (.iaload, 1) := by decide +kernel
theorem dX2_quality_23 : decode cX2_quality 23 = .ok (.goto 9, 3) := by decide +kernel
theorem dX2_quality_26 : decode cX2_quality 26 = .ok (.aload_n 0, 1) := by decide +kernel
theorem dX2_quality_27 : decode cX2_quality 27 = .ok (.bipush (-2), 2) := by decide +kernel
theorem dX2_quality_29 : decode cX2_quality 29 = .ok (.invokevirtual 29, 3) := by decide +kernel
theorem dX2_quality_32 : decode cX2_quality 32 = .ok (.ireturn, 1) := by decide +kernel
set_option maxRecDepth 20000 in
theorem ggX2_score_X2_isThere : GoodIn wsX2_score wsX2_isThere := goodIn_r _ [5, 6, 7, 4, 8, 9, 10, 11, 12, 13, 14, 15, 16, 17] (by decide +kernel) (by decide +kernel)
set_option maxRecDepth 20000 in
theorem gX2_score_X2_isThere : GoodIn wsX2_score (va_wsS RX2 121 yX2_isThere wsX2_isThere) := goodIn_app (goodIn_of _ (by decide +kernel)) ggX2_score_X2_isThere
set_option maxRecDepth 20000 in
theorem ggX2_score_X2_at : GoodIn wsX2_score wsX2_at := goodIn_r _ [20] (by decide +kernel) (by decide +kernel)
set_option maxRecDepth 20000 in
theorem gX2_score_X2_at : GoodIn wsX2_score (va_wsS RX2 51 yX2_at wsX2_at) := goodIn_app (goodIn_of _ (by decide +kernel)) ggX2_score_X2_at
set_option maxRecDepth 20000 in
theorem ggX2_score_X2_fail : GoodIn wsX2_score wsX2_fail := goodIn_r _ [24, 25, 26, 27, 28, 29, 30, 31, 32] (by decide +kernel) (by decide +kernel)
set_option maxRecDepth 20000 in
theorem gX2_score_X2_fail : GoodIn wsX2_score (wsV RX2 29 RX2 yX2_fail wsX2_fail) := goodIn_app (goodIn_of _ (by decide +kernel)) ggX2_score_X2_fail
theorem dX2_score_0 : decode cX2_score 0 = .ok (.iload_n 1, 1) := by decide +kernel
theorem dX2_score_1 : decode cX2_score 1 = .ok (.iload_n 2, 1) := by decide +kernel
theorem dX2_score_2 : decode cX2_score 2 = .ok (.iload_n 3, 1) := by decide +kernel
theorem dX2_score_3 : decode cX2_score 3 = .ok (.invokestatic 121, 3) := by decide +kernel
theorem dX2_score_6 : decode cX2_score 6 = .ok (.ifCond .eq 21, 3) := by decide +kernel
theorem dX2_score_9 : decode cX2_score 9 = .ok (.aload_n 0, 1) := by decide +kernel
theorem dX2_score_10 : decode cX2_score 10 = .ok (.getfield 7, 3) := by decide +kernel
theorem dX2_score_13 : decode cX2_score 13 = .ok (.sipush 224, 3) := by decide +kernel
theorem dX2_score_16 : decode cX2_score 16 = .ok (.iload_n 1, 1) := by decide +kernel
theorem dX2_score_17 : decode cX2_score 17 = .ok (.iload_n 2, 1) := by decide +kernel
theorem dX2_score_18 : decode cX2_score 18 = .ok (.iload_n 3, 1) := by decide +kernel
theorem dX2_score_19 : decode cX2_score 19 = .ok (.invokestatic 51, 3) := by decide +kernel
theorem dX2_score_22 : decode cX2_score 22 = .ok (.iadd, 1) := by decide +kernel
theorem dX2_score_23 : decode cX2_score 23 = .ok (.iaload, 1) := by decide +kernel
theorem dX2_score_24 : decode cX2_score 24 = .ok (.goto 9, 3) := by decide +kernel
theorem dX2_score_27 : decode cX2_score 27 = .ok (.aload_n 0, 1) := by decide +kernel
theorem dX2_score_28 : decode cX2_score 28 = .ok (.bipush (-2), 2) := by decide +kernel
theorem dX2_score_30 : decode cX2_score 30 = .ok (.invokevirtual 29, 3) := by decide +kernel
theorem dX2_score_33 : decode cX2_score 33 = .ok (.ireturn, 1) := by decide +kernel
set_option maxRecDepth 20000 in
theorem ggX2_effective_X2_isThere : GoodIn wsX2_effective wsX2_isThere := goodIn_r _ [4, 5, 6, 3, 7, 8, 9, 10, 11, 12, 13, 14, 15, 16] (by decide +kernel) (by decide +kernel)
set_option maxRecDepth 20000 in
theorem gX2_effective_X2_isThere : GoodIn wsX2_effective (va_wsS RX2 121 yX2_isThere wsX2_isThere) := goodIn_app (goodIn_of _ (by decide +kernel)) ggX2_effective_X2_isThere
set_option maxRecDepth 20000 in
theorem ggX2_effective_X2_effectiveOf : GoodIn wsX2_effective wsX2_effectiveOf := goodIn_r _ [20, 21, 22, 23, 3, 24, 30, 31, 32, 33, 34, 35, 36] (by decide +kernel) (by decide +kernel)
set_option maxRecDepth 20000 in
theorem gX2_effective_X2_effectiveOf : GoodIn wsX2_effective (wsV RX2 92 RX2 yX2_effectiveOf wsX2_effectiveOf) := goodIn_app (goodIn_of _ (by decide +kernel)) ggX2_effective_X2_effectiveOf
set_option maxRecDepth 20000 in
theorem ggX2_effective_X2_fail : GoodIn wsX2_effective wsX2_fail := goodIn_r _ [28, 29, 30, 31, 32, 33, 34, 35, 36] (by decide +kernel) (by decide +kernel)
set_option maxRecDepth 20000 in
theorem gX2_effective_X2_fail : GoodIn wsX2_effective (wsV RX2 29 RX2 yX2_fail wsX2_fail) := goodIn_app (goodIn_of _ (by decide +kernel)) ggX2_effective_X2_fail
theorem dX2_effective_0 : decode cX2_effective 0 = .ok (.iload_n 1, 1) := by decide +kernel
theorem dX2_effective_1 : decode cX2_effective 1 = .ok (.iload_n 2, 1) := by decide +kernel
theorem dX2_effective_2 : decode cX2_effective 2 = .ok (.iload_n 3, 1) := by decide +kernel
theorem dX2_effective_3 : decode cX2_effective 3 = .ok (.invokestatic 121, 3) := by decide +kernel
theorem dX2_effective_6 : decode cX2_effective 6 = .ok (.ifCond .eq 13, 3) := by decide +kernel
theorem dX2_effective_9 : decode cX2_effective 9 = .ok (.aload_n 0, 1) := by decide +kernel
theorem dX2_effective_10 : decode cX2_effective 10 = .ok (.iload_n 1, 1) := by decide +kernel
theorem dX2_effective_11 : decode cX2_effective 11 = .ok (.iload_n 2, 1) := by decide +kernel
theorem dX2_effective_12 : decode cX2_effective 12 = .ok (.iload_n 3, 1) := by decide +kernel
theorem dX2_effective_13 : decode cX2_effective 13 = .ok (.invokevirtual 92, 3) := by decide +kernel
theorem dX2_effective_16 : decode cX2_effective 16 = .ok (.goto 9, 3) := by decide +kernel
theorem dX2_effective_19 : decode cX2_effective 19 = .ok (.aload_n 0, 1) := by decide +kernel
theorem dX2_effective_20 : decode cX2_effective 20 = .ok (.bipush (-2), 2) := by decide +kernel
theorem dX2_effective_22 : decode cX2_effective 22 = .ok (.invokevirtual 29, 3) := by decide +kernel
theorem dX2_effective_25 : decode cX2_effective 25 = .ok (.ireturn, 1) := by decide +kernel
set_option maxRecDepth 20000 in
theorem ggX2_bestChannel_X2_arePair : GoodIn wsX2_bestChannel wsX2_arePair := goodIn_r _ [5, 6, 7, 4, 8, 9, 10, 11] (by decide +kernel) (by decide +kernel)
set_option maxRecDepth 20000 in
theorem gX2_bestChannel_X2_arePair : GoodIn wsX2_bestChannel (va_wsS RX2 44 yX2_arePair wsX2_arePair) := goodIn_app (goodIn_of _ (by decide +kernel)) ggX2_bestChannel_X2_arePair
set_option maxRecDepth 20000 in
theorem ggX2_bestChannel_X2_fail : GoodIn wsX2_bestChannel wsX2_fail := goodIn_r _ [15, 16, 33, 34, 35, 36, 37, 38, 39] (by decide +kernel) (by decide +kernel)
set_option maxRecDepth 20000 in
theorem gX2_bestChannel_X2_fail : GoodIn wsX2_bestChannel (wsV RX2 29 RX2 yX2_fail wsX2_fail) := goodIn_app (goodIn_of _ (by decide +kernel)) ggX2_bestChannel_X2_fail
set_option maxRecDepth 20000 in
theorem ggX2_bestChannel_X2_sortChannels : GoodIn wsX2_bestChannel wsX2_sortChannels := goodIn_r _ [20, 21, 22, 1, 23, 24, 4, 25, 26, 27, 28, 29, 30, 31, 32, 33, 34, 35, 36, 37, 38, 39] (by decide +kernel) (by decide +kernel)
set_option maxRecDepth 20000 in
theorem gX2_bestChannel_X2_sortChannels : GoodIn wsX2_bestChannel (wsV RX2 95 RX2 yX2_sortChannels wsX2_sortChannels) := goodIn_app (goodIn_of _ (by decide +kernel)) ggX2_bestChannel_X2_sortChannels
theorem dX2_bestChannel_0 : decode cX2_bestChannel 0 = .ok (.iload_n 1, 1) := by decide +kernel
theorem dX2_bestChannel_1 : decode cX2_bestChannel 1 = .ok (.iload_n 2, 1) := by decide +kernel
theorem dX2_bestChannel_2 : decode cX2_bestChannel 2 = .ok (.invokestatic 44, 3) := by decide +kernel
theorem dX2_bestChannel_5 : decode cX2_bestChannel 5 = .ok (.ifCond .ne 10, 3) := by decide +kernel
theorem dX2_bestChannel_8 : decode cX2_bestChannel 8 = .ok (.aload_n 0, 1) := by decide +kernel
theorem dX2_bestChannel_9 : decode cX2_bestChannel 9 = .ok (.bipush (-2), 2) := by decide +kernel
theorem dX2_bestChannel_11 : decode cX2_bestChannel 11 = .ok (.invokevirtual 29, 3) := by decide +kernel
theorem dX2_bestChannel_14 : decode cX2_bestChannel 14 = .ok (.ireturn, 1) := by decide +kernel
theorem dX2_bestChannel_15 : decode cX2_bestChannel 15 = .ok (.aload_n 0, 1) := by decide +kernel
theorem dX2_bestChannel_16 : decode cX2_bestChannel 16 = .ok (.iload_n 1, 1) := by decide +kernel
theorem dX2_bestChannel_17 : decode cX2_bestChannel 17 = .ok (.iload_n 2, 1) := by decide +kernel
theorem dX2_bestChannel_18 : decode cX2_bestChannel 18 = .ok (.invokevirtual 95, 3) := by decide +kernel
theorem dX2_bestChannel_21 : decode cX2_bestChannel 21 = .ok (.istore_n 3, 1) := by decide +kernel
theorem dX2_bestChannel_22 : decode cX2_bestChannel 22 = .ok (.iload_n 3, 1) := by decide +kernel
theorem dX2_bestChannel_23 : decode cX2_bestChannel 23 = .ok (.ifCond .le 12, 3) := by decide +kernel
theorem dX2_bestChannel_26 : decode cX2_bestChannel 26 = .ok (.aload_n 0, 1) := by decide +kernel
theorem dX2_bestChannel_27 : decode cX2_bestChannel 27 = .ok (.getfield 19, 3) := by decide +kernel
theorem dX2_bestChannel_30 : decode cX2_bestChannel 30 = .ok (.iconst 0, 1) := by decide +kernel
theorem dX2_bestChannel_31 : decode cX2_bestChannel 31 = .ok (.iaload, 1) := by decide +kernel
theorem dX2_bestChannel_32 : decode cX2_bestChannel 32 = .ok (.goto 4, 3) := by decide +kernel
theorem dX2_bestChannel_35 : decode cX2_bestChannel 35 = .ok (.iconst (-1), 1) := by decide +kernel
theorem dX2_bestChannel_36 : decode cX2_bestChannel 36 = .ok (.ireturn, 1) := by decide +kernel
set_option maxRecDepth 20000 in
theorem ggX2_netChannel_X2_isNet : GoodIn wsX2_netChannel wsX2_isNet := goodIn_r _ [4, 5, 6, 3, 7, 8, 9, 10, 11, 12, 13] (by decide +kernel) (by decide +kernel)
set_option maxRecDepth 20000 in
theorem gX2_netChannel_X2_isNet : GoodIn wsX2_netChannel (va_wsS RX2 108 yX2_isNet wsX2_isNet) := goodIn_app (goodIn_of _ (by decide +kernel)) ggX2_netChannel_X2_isNet
set_option maxRecDepth 20000 in
theorem ggX2_netChannel_X2_netChannelOf : GoodIn wsX2_netChannel wsX2_netChannelOf := goodIn_r _ [17, 18, 11, 12, 3, 13, 19, 20, 21, 22, 23, 24, 25, 26, 27, 28, 29, 35, 36, 37, 38, 39, 40, 41] (by decide +kernel) (by decide +kernel)
set_option maxRecDepth 20000 in
theorem gX2_netChannel_X2_netChannelOf : GoodIn wsX2_netChannel (wsV RX2 111 RX2 yX2_netChannelOf wsX2_netChannelOf) := goodIn_app (goodIn_of _ (by decide +kernel)) ggX2_netChannel_X2_netChannelOf
set_option maxRecDepth 20000 in
theorem ggX2_netChannel_X2_fail : GoodIn wsX2_netChannel wsX2_fail := goodIn_r _ [33, 34, 35, 36, 37, 38, 39, 40, 41] (by decide +kernel) (by decide +kernel)
set_option maxRecDepth 20000 in
theorem gX2_netChannel_X2_fail : GoodIn wsX2_netChannel (wsV RX2 29 RX2 yX2_fail wsX2_fail) := goodIn_app (goodIn_of _ (by decide +kernel)) ggX2_netChannel_X2_fail
theorem dX2_netChannel_0 : decode cX2_netChannel 0 = .ok (.iload_n 1, 1) := by decide +kernel
theorem dX2_netChannel_1 : decode cX2_netChannel 1 = .ok (.iload_n 2, 1) := by decide +kernel
theorem dX2_netChannel_2 : decode cX2_netChannel 2 = .ok (.invokestatic 108, 3) := by decide +kernel
theorem dX2_netChannel_5 : decode cX2_netChannel 5 = .ok (.ifCond .eq 12, 3) := by decide +kernel
theorem dX2_netChannel_8 : decode cX2_netChannel 8 = .ok (.aload_n 0, 1) := by decide +kernel
theorem dX2_netChannel_9 : decode cX2_netChannel 9 = .ok (.iload_n 1, 1) := by decide +kernel
theorem dX2_netChannel_10 : decode cX2_netChannel 10 = .ok (.iload_n 2, 1) := by decide +kernel
theorem dX2_netChannel_11 : decode cX2_netChannel 11 = .ok (.invokevirtual 111, 3) := by decide +kernel
theorem dX2_netChannel_14 : decode cX2_netChannel 14 = .ok (.goto 9, 3) := by decide +kernel
theorem dX2_netChannel_17 : decode cX2_netChannel 17 = .ok (.aload_n 0, 1) := by decide +kernel
theorem dX2_netChannel_18 : decode cX2_netChannel 18 = .ok (.bipush (-2), 2) := by decide +kernel
theorem dX2_netChannel_20 : decode cX2_netChannel 20 = .ok (.invokevirtual 29, 3) := by decide +kernel
theorem dX2_netChannel_23 : decode cX2_netChannel 23 = .ok (.ireturn, 1) := by decide +kernel
set_option maxRecDepth 20000 in
theorem ggX2_link_X2_isStation : GoodIn wsX2_link wsX2_isStation := goodIn_r _ [5, 6, 7, 4, 8] (by decide +kernel) (by decide +kernel)
set_option maxRecDepth 20000 in
theorem gX2_link_X2_isStation : GoodIn wsX2_link (va_wsS RX2 37 yX2_isStation wsX2_isStation) := goodIn_app (goodIn_of _ (by decide +kernel)) ggX2_link_X2_isStation
set_option maxRecDepth 20000 in
theorem ggX2_link_X2_fail : GoodIn wsX2_link wsX2_fail := goodIn_r _ [12, 13, 14, 15, 16, 17, 18, 19, 20] (by decide +kernel) (by decide +kernel)
set_option maxRecDepth 20000 in
theorem gX2_link_X2_fail : GoodIn wsX2_link (wsV RX2 29 RX2 yX2_fail wsX2_fail) := goodIn_app (goodIn_of _ (by decide +kernel)) ggX2_link_X2_fail
theorem dX2_link_0 : decode cX2_link 0 = .ok (.iload_n 1, 1) := by decide +kernel
theorem dX2_link_1 : decode cX2_link 1 = .ok (.invokestatic 37, 3) := by decide +kernel
theorem dX2_link_4 : decode cX2_link 4 = .ok (.ifCond .eq 15, 3) := by decide +kernel
theorem dX2_link_7 : decode cX2_link 7 = .ok (.aload_n 0, 1) := by decide +kernel
theorem dX2_link_8 : decode cX2_link 8 = .ok (.getfield 7, 3) := by decide +kernel
theorem dX2_link_11 : decode cX2_link 11 = .ok (.bipush 14, 2) := by decide +kernel
theorem dX2_link_13 : decode cX2_link 13 = .ok (.iload_n 1, 1) := by decide +kernel
theorem dX2_link_14 : decode cX2_link 14 = .ok (.iadd, 1) := by decide +kernel
theorem dX2_link_15 : decode cX2_link 15 = .ok (.iaload, 1) := by decide +kernel
theorem dX2_link_16 : decode cX2_link 16 = .ok (.goto 9, 3) := by decide +kernel
theorem dX2_link_19 : decode cX2_link 19 = .ok (.aload_n 0, 1) := by decide +kernel
theorem dX2_link_20 : decode cX2_link 20 = .ok (.bipush (-2), 2) := by decide +kernel
theorem dX2_link_22 : decode cX2_link 22 = .ok (.invokevirtual 29, 3) := by decide +kernel
theorem dX2_link_25 : decode cX2_link 25 = .ok (.ireturn, 1) := by decide +kernel
set_option maxRecDepth 20000 in
theorem ggX2_linkChannel_X2_isStation : GoodIn wsX2_linkChannel wsX2_isStation := goodIn_r _ [5, 6, 7, 4, 8] (by decide +kernel) (by decide +kernel)
set_option maxRecDepth 20000 in
theorem gX2_linkChannel_X2_isStation : GoodIn wsX2_linkChannel (va_wsS RX2 37 yX2_isStation wsX2_isStation) := goodIn_app (goodIn_of _ (by decide +kernel)) ggX2_linkChannel_X2_isStation
set_option maxRecDepth 20000 in
theorem ggX2_linkChannel_X2_fail : GoodIn wsX2_linkChannel wsX2_fail := goodIn_r _ [12, 13, 14, 15, 16, 17, 18, 19, 20] (by decide +kernel) (by decide +kernel)
set_option maxRecDepth 20000 in
theorem gX2_linkChannel_X2_fail : GoodIn wsX2_linkChannel (wsV RX2 29 RX2 yX2_fail wsX2_fail) := goodIn_app (goodIn_of _ (by decide +kernel)) ggX2_linkChannel_X2_fail
theorem dX2_linkChannel_0 : decode cX2_linkChannel 0 = .ok (.iload_n 1, 1) := by decide +kernel
theorem dX2_linkChannel_1 : decode cX2_linkChannel 1 = .ok (.invokestatic 37, 3) := by decide +kernel
theorem dX2_linkChannel_4 : decode cX2_linkChannel 4 = .ok (.ifCond .eq 15, 3) := by decide +kernel
theorem dX2_linkChannel_7 : decode cX2_linkChannel 7 = .ok (.aload_n 0, 1) := by decide +kernel
theorem dX2_linkChannel_8 : decode cX2_linkChannel 8 = .ok (.getfield 7, 3) := by decide +kernel
theorem dX2_linkChannel_11 : decode cX2_linkChannel 11 = .ok (.bipush 19, 2) := by decide +kernel
theorem dX2_linkChannel_13 : decode cX2_linkChannel 13 = .ok (.iload_n 1, 1) := by decide +kernel
theorem dX2_linkChannel_14 : decode cX2_linkChannel 14 = .ok (.iadd, 1) := by decide +kernel
theorem dX2_linkChannel_15 : decode cX2_linkChannel 15 = .ok (.iaload, 1) := by decide +kernel
theorem dX2_linkChannel_16 : decode cX2_linkChannel 16 = .ok (.goto 9, 3) := by decide +kernel
theorem dX2_linkChannel_19 : decode cX2_linkChannel 19 = .ok (.aload_n 0, 1) := by decide +kernel
theorem dX2_linkChannel_20 : decode cX2_linkChannel 20 = .ok (.bipush (-2), 2) := by decide +kernel
theorem dX2_linkChannel_22 : decode cX2_linkChannel 22 = .ok (.invokevirtual 29, 3) := by decide +kernel
theorem dX2_linkChannel_25 : decode cX2_linkChannel 25 = .ok (.ireturn, 1) := by decide +kernel
theorem dX2_time_0 : decode cX2_time 0 = .ok (.aload_n 0, 1) := by decide +kernel
theorem dX2_time_1 : decode cX2_time 1 = .ok (.getfield 7, 3) := by decide +kernel
theorem dX2_time_4 : decode cX2_time 4 = .ok (.iconst 0, 1) := by decide +kernel
theorem dX2_time_5 : decode cX2_time 5 = .ok (.iaload, 1) := by decide +kernel
theorem dX2_time_6 : decode cX2_time 6 = .ok (.ireturn, 1) := by decide +kernel
theorem dX2_transmitted_0 : decode cX2_transmitted 0 = .ok (.aload_n 0, 1) := by decide +kernel
theorem dX2_transmitted_1 : decode cX2_transmitted 1 = .ok (.getfield 7, 3) := by decide +kernel
theorem dX2_transmitted_4 : decode cX2_transmitted 4 = .ok (.iconst 3, 1) := by decide +kernel
theorem dX2_transmitted_5 : decode cX2_transmitted 5 = .ok (.iaload, 1) := by decide +kernel
theorem dX2_transmitted_6 : decode cX2_transmitted 6 = .ok (.ireturn, 1) := by decide +kernel
theorem dX2_decoded_0 : decode cX2_decoded 0 = .ok (.aload_n 0, 1) := by decide +kernel
theorem dX2_decoded_1 : decode cX2_decoded 1 = .ok (.getfield 7, 3) := by decide +kernel
theorem dX2_decoded_4 : decode cX2_decoded 4 = .ok (.iconst 4, 1) := by decide +kernel
theorem dX2_decoded_5 : decode cX2_decoded 5 = .ok (.iaload, 1) := by decide +kernel
theorem dX2_decoded_6 : decode cX2_decoded 6 = .ok (.ireturn, 1) := by decide +kernel
set_option maxRecDepth 20000 in
theorem ggX2_isWord_X2_in : GoodIn wsX2_isWord wsX2_in := goodIn_r _ [5] (by decide +kernel) (by decide +kernel)
set_option maxRecDepth 20000 in
theorem gX2_isWord_X2_in : GoodIn wsX2_isWord (va_wsS RX2 33 yX2_in wsX2_in) := goodIn_app (goodIn_of _ (by decide +kernel)) ggX2_isWord_X2_in
theorem dX2_isWord_0 : decode cX2_isWord 0 = .ok (.iload_n 0, 1) := by decide +kernel
theorem dX2_isWord_1 : decode cX2_isWord 1 = .ok (.iconst 0, 1) := by decide +kernel
theorem dX2_isWord_2 : decode cX2_isWord 2 = .ok (.ldc 124, 2) := by decide +kernel
theorem dX2_isWord_4 : decode cX2_isWord 4 = .ok (.invokestatic 33, 3) := by decide +kernel
theorem dX2_isWord_7 : decode cX2_isWord 7 = .ok (.ireturn, 1) := by decide +kernel
set_option maxRecDepth 20000 in
theorem ggX2_vote_X2_isWord : GoodIn wsX2_vote wsX2_isWord := goodIn_r _ [4, 5, 6, 7, 3, 8] (by decide +kernel) (by decide +kernel)
set_option maxRecDepth 20000 in
theorem gX2_vote_X2_isWord : GoodIn wsX2_vote (va_wsS RX2 125 yX2_isWord wsX2_isWord) := goodIn_app (goodIn_of _ (by decide +kernel)) ggX2_vote_X2_isWord
set_option maxRecDepth 20000 in
theorem ggX2_vote_X2_majority : GoodIn wsX2_vote wsX2_majority := goodIn_r _ [11] (by decide +kernel) (by decide +kernel)
set_option maxRecDepth 20000 in
theorem gX2_vote_X2_majority : GoodIn wsX2_vote (va_wsS RX2 73 yX2_majority wsX2_majority) := goodIn_app (goodIn_of _ (by decide +kernel)) ggX2_vote_X2_majority
set_option maxRecDepth 20000 in
theorem ggX2_vote_X2_fail : GoodIn wsX2_vote wsX2_fail := goodIn_r _ [15, 16, 17, 18, 19, 20, 21, 22, 23] (by decide +kernel) (by decide +kernel)
set_option maxRecDepth 20000 in
theorem gX2_vote_X2_fail : GoodIn wsX2_vote (wsV RX2 29 RX2 yX2_fail wsX2_fail) := goodIn_app (goodIn_of _ (by decide +kernel)) ggX2_vote_X2_fail
theorem dX2_vote_0 : decode cX2_vote 0 = .ok (.iload_n 1, 1) := by decide +kernel
theorem dX2_vote_1 : decode cX2_vote 1 = .ok (.invokestatic 125, 3) := by decide +kernel
theorem dX2_vote_4 : decode cX2_vote 4 = .ok (.ifCond .eq 26, 3) := by decide +kernel
theorem dX2_vote_7 : decode cX2_vote 7 = .ok (.iload_n 2, 1) := by decide +kernel
theorem dX2_vote_8 : decode cX2_vote 8 = .ok (.invokestatic 125, 3) := by decide +kernel
theorem dX2_vote_11 : decode cX2_vote 11 = .ok (.ifCond .eq 19, 3) := by decide +kernel
theorem dX2_vote_14 : decode cX2_vote 14 = .ok (.iload_n 3, 1) := by decide +kernel
theorem dX2_vote_15 : decode cX2_vote 15 = .ok (.invokestatic 125, 3) := by decide +kernel
theorem dX2_vote_18 : decode cX2_vote 18 = .ok (.ifCond .eq 12, 3) := by decide +kernel
theorem dX2_vote_21 : decode cX2_vote 21 = .ok (.iload_n 1, 1) := by decide +kernel
theorem dX2_vote_22 : decode cX2_vote 22 = .ok (.iload_n 2, 1) := by decide +kernel
theorem dX2_vote_23 : decode cX2_vote 23 = .ok (.iload_n 3, 1) := by decide +kernel
theorem dX2_vote_24 : decode cX2_vote 24 = .ok (.invokestatic 73, 3) := by decide +kernel
theorem dX2_vote_27 : decode cX2_vote 27 = .ok (.goto 9, 3) := by decide +kernel
theorem dX2_vote_30 : decode cX2_vote 30 = .ok (.aload_n 0, 1) := by decide +kernel
theorem dX2_vote_31 : decode cX2_vote 31 = .ok (.bipush (-2), 2) := by decide +kernel
theorem dX2_vote_33 : decode cX2_vote 33 = .ok (.invokevirtual 29, 3) := by decide +kernel
theorem dX2_vote_36 : decode cX2_vote 36 = .ok (.ireturn, 1) := by decide +kernel
set_option maxRecDepth 20000 in
theorem ggX2_errorCount_X2_in : GoodIn wsX2_errorCount wsX2_in := goodIn_r _ [5] (by decide +kernel) (by decide +kernel)
set_option maxRecDepth 20000 in
theorem gX2_errorCount_X2_in : GoodIn wsX2_errorCount (va_wsS RX2 33 yX2_in wsX2_in) := goodIn_app (goodIn_of _ (by decide +kernel)) ggX2_errorCount_X2_in
set_option maxRecDepth 20000 in
theorem ggX2_errorCount_X2_fail : GoodIn wsX2_errorCount wsX2_fail := goodIn_r _ [9, 1, 10, 11, 12, 13, 14, 15, 16] (by decide +kernel) (by decide +kernel)
set_option maxRecDepth 20000 in
theorem gX2_errorCount_X2_fail : GoodIn wsX2_errorCount (wsV RX2 29 RX2 yX2_fail wsX2_fail) := goodIn_app (goodIn_of _ (by decide +kernel)) ggX2_errorCount_X2_fail
theorem dX2_errorCount_0 : decode cX2_errorCount 0 = .ok (.iload_n 1, 1) := by decide +kernel
theorem dX2_errorCount_1 : decode cX2_errorCount 1 = .ok (.iconst 0, 1) := by decide +kernel
theorem dX2_errorCount_2 : decode cX2_errorCount 2 = .ok (.iconst 1, 1) := by decide +kernel
theorem dX2_errorCount_3 : decode cX2_errorCount 3 = .ok (.invokestatic 33, 3) := by decide +kernel
theorem dX2_errorCount_6 : decode cX2_errorCount 6 = .ok (.ifCond .eq 12, 3) := by decide +kernel
theorem dX2_errorCount_9 : decode cX2_errorCount 9 = .ok (.aload_n 0, 1) := by decide +kernel
theorem dX2_errorCount_10 : decode cX2_errorCount 10 = .ok (.getfield 16, 3) := by decide +kernel
theorem dX2_errorCount_13 : decode cX2_errorCount 13 = .ok (.iload_n 1, 1) := by decide +kernel
theorem dX2_errorCount_14 : decode cX2_errorCount 14 = .ok (.iaload, 1) := by decide +kernel
theorem dX2_errorCount_15 : decode cX2_errorCount 15 = .ok (.goto 9, 3) := by decide +kernel
theorem dX2_errorCount_18 : decode cX2_errorCount 18 = .ok (.aload_n 0, 1) := by decide +kernel
theorem dX2_errorCount_19 : decode cX2_errorCount 19 = .ok (.bipush (-2), 2) := by decide +kernel
theorem dX2_errorCount_21 : decode cX2_errorCount 21 = .ok (.invokevirtual 29, 3) := by decide +kernel
theorem dX2_errorCount_24 : decode cX2_errorCount 24 = .ok (.ireturn, 1) := by decide +kernel
theorem dX2_add_0 : decode cX2_add 0 = .ok (.aload_n 0, 1) := by decide +kernel
theorem dX2_add_1 : decode cX2_add 1 = .ok (.ldc2_w 128, 3) := by decide +kernel
theorem dX2_add_4 : decode cX2_add 4 = .ok (.aload_n 0, 1) := by decide +kernel
theorem dX2_add_5 : decode cX2_add 5 = .ok (.getfield 130, 3) := by decide +kernel
theorem dX2_add_8 : decode cX2_add 8 = .ok (.lmul, 1) := by decide +kernel
theorem dX2_add_9 : decode cX2_add 9 = .ok (.iload_n 1, 1) := by decide +kernel
theorem dX2_add_10 : decode cX2_add 10 = .ok (.i2l, 1) := by decide +kernel
theorem dX2_add_11 : decode cX2_add 11 = .ok (.ladd, 1) := by decide +kernel
theorem dX2_add_12 : decode cX2_add 12 = .ok (.putfield 130, 3) := by decide +kernel
theorem dX2_add_15 : decode cX2_add 15 = .ok (.return_, 1) := by decide +kernel
set_option maxRecDepth 20000 in
theorem ggX2_digest_X2_add : GoodIn wsX2_digest wsX2_add := goodIn_r _ [10, 11, 2, 19, 20, 21, 22, 23, 24, 25] (by decide +kernel) (by decide +kernel)
set_option maxRecDepth 20000 in
theorem gX2_digest_X2_add : GoodIn wsX2_digest (wsV RX2 136 RX2 yX2_add wsX2_add) := goodIn_app (goodIn_of _ (by decide +kernel)) ggX2_digest_X2_add
set_option maxRecDepth 20000 in
theorem ggX2_digest_X2_effectiveOf : GoodIn wsX2_digest wsX2_effectiveOf := goodIn_r _ [15, 5, 16, 17, 9, 18, 19, 20, 21, 22, 23, 24, 25] (by decide +kernel) (by decide +kernel)
set_option maxRecDepth 20000 in
theorem gX2_digest_X2_effectiveOf : GoodIn wsX2_digest (wsV RX2 92 RX2 yX2_effectiveOf wsX2_effectiveOf) := goodIn_app (goodIn_of _ (by decide +kernel)) ggX2_digest_X2_effectiveOf
theorem dX2_digest_0 : decode cX2_digest 0 = .ok (.aload_n 0, 1) := by decide +kernel
theorem dX2_digest_1 : decode cX2_digest 1 = .ok (.ldc2_w 134, 3) := by decide +kernel
theorem dX2_digest_4 : decode cX2_digest 4 = .ok (.putfield 130, 3) := by decide +kernel
theorem dX2_digest_7 : decode cX2_digest 7 = .ok (.aload_n 0, 1) := by decide +kernel
theorem dX2_digest_8 : decode cX2_digest 8 = .ok (.aload_n 0, 1) := by decide +kernel
theorem dX2_digest_9 : decode cX2_digest 9 = .ok (.getfield 16, 3) := by decide +kernel
theorem dX2_digest_12 : decode cX2_digest 12 = .ok (.iconst 0, 1) := by decide +kernel
theorem dX2_digest_13 : decode cX2_digest 13 = .ok (.iaload, 1) := by decide +kernel
theorem dX2_digest_14 : decode cX2_digest 14 = .ok (.invokevirtual 136, 3) := by decide +kernel
theorem dX2_digest_17 : decode cX2_digest 17 = .ok (.aload_n 0, 1) := by decide +kernel
theorem dX2_digest_18 : decode cX2_digest 18 = .ok (.aload_n 0, 1) := by decide +kernel
theorem dX2_digest_19 : decode cX2_digest 19 = .ok (.getfield 16, 3) := by decide +kernel
theorem dX2_digest_22 : decode cX2_digest 22 = .ok (.iconst 1, 1) := by decide +kernel
theorem dX2_digest_23 : decode cX2_digest 23 = .ok (.iaload, 1) := by decide +kernel
theorem dX2_digest_24 : decode cX2_digest 24 = .ok (.invokevirtual 136, 3) := by decide +kernel
theorem dX2_digest_27 : decode cX2_digest 27 = .ok (.aload_n 0, 1) := by decide +kernel
theorem dX2_digest_28 : decode cX2_digest 28 = .ok (.aload_n 0, 1) := by decide +kernel
theorem dX2_digest_29 : decode cX2_digest 29 = .ok (.getfield 25, 3) := by decide +kernel
theorem dX2_digest_32 : decode cX2_digest 32 = .ok (.invokevirtual 136, 3) := by decide +kernel
theorem dX2_digest_35 : decode cX2_digest 35 = .ok (.aload_n 0, 1) := by decide +kernel
theorem dX2_digest_36 : decode cX2_digest 36 = .ok (.aload_n 0, 1) := by decide +kernel
theorem dX2_digest_37 : decode cX2_digest 37 = .ok (.getfield 7, 3) := by decide +kernel
theorem dX2_digest_40 : decode cX2_digest 40 = .ok (.iconst 0, 1) := by decide +kernel
theorem dX2_digest_41 : decode cX2_digest 41 = .ok (.iaload, 1) := by decide +kernel
theorem dX2_digest_42 : decode cX2_digest 42 = .ok (.invokevirtual 136, 3) := by decide +kernel
theorem dX2_digest_45 : decode cX2_digest 45 = .ok (.aload_n 0, 1) := by decide +kernel
theorem dX2_digest_46 : decode cX2_digest 46 = .ok (.aload_n 0, 1) := by decide +kernel
theorem dX2_digest_47 : decode cX2_digest 47 = .ok (.getfield 7, 3) := by decide +kernel
theorem dX2_digest_50 : decode cX2_digest 50 = .ok (.iconst 2, 1) := by decide +kernel
theorem dX2_digest_51 : decode cX2_digest 51 = .ok (.iaload, 1) := by decide +kernel
theorem dX2_digest_52 : decode cX2_digest 52 = .ok (.invokevirtual 136, 3) := by decide +kernel
theorem dX2_digest_55 : decode cX2_digest 55 = .ok (.aload_n 0, 1) := by decide +kernel
theorem dX2_digest_56 : decode cX2_digest 56 = .ok (.aload_n 0, 1) := by decide +kernel
theorem dX2_digest_57 : decode cX2_digest 57 = .ok (.getfield 7, 3) := by decide +kernel
theorem dX2_digest_60 : decode cX2_digest 60 = .ok (.iconst 1, 1) := by decide +kernel
theorem dX2_digest_61 : decode cX2_digest 61 = .ok (.iaload, 1) := by decide +kernel
theorem dX2_digest_62 : decode cX2_digest 62 = .ok (.invokevirtual 136, 3) := by decide +kernel
theorem dX2_digest_65 : decode cX2_digest 65 = .ok (.iconst 3, 1) := by decide +kernel
theorem dX2_digest_66 : decode cX2_digest 66 = .ok (.istore_n 1, 1) := by decide +kernel
theorem dX2_digest_67 : decode cX2_digest 67 = .ok (.iload_n 1, 1) := by decide +kernel
theorem dX2_digest_68 : decode cX2_digest 68 = .ok (.bipush 8, 2) := by decide +kernel
theorem dX2_digest_70 : decode cX2_digest 70 = .ok (.if_icmp .gt 19, 3) := by decide +kernel
theorem dX2_digest_73 : decode cX2_digest 73 = .ok (.aload_n 0, 1) := by decide +kernel
theorem dX2_digest_74 : decode cX2_digest 74 = .ok (.aload_n 0, 1) := by decide +kernel
theorem dX2_digest_75 : decode cX2_digest 75 = .ok (.getfield 7, 3) := by decide +kernel
theorem dX2_digest_78 : decode cX2_digest 78 = .ok (.iload_n 1, 1) := by decide +kernel
theorem dX2_digest_79 : decode cX2_digest 79 = .ok (.iaload, 1) := by decide +kernel
theorem dX2_digest_80 : decode cX2_digest 80 = .ok (.invokevirtual 136, 3) := by decide +kernel
theorem dX2_digest_83 : decode cX2_digest 83 = .ok (.iinc 1 1, 3) := by decide +kernel
theorem dX2_digest_86 : decode cX2_digest 86 = .ok (.goto (-19), 3) := by decide +kernel
theorem dX2_digest_89 : decode cX2_digest 89 = .ok (.iconst 0, 1) := by decide +kernel
theorem dX2_digest_90 : decode cX2_digest 90 = .ok (.istore_n 1, 1) := by decide +kernel
theorem dX2_digest_91 : decode cX2_digest 91 = .ok (.iload_n 1, 1) := by decide +kernel
theorem dX2_digest_92 : decode cX2_digest 92 = .ok (.iconst 5, 1) := by decide +kernel
theorem dX2_digest_93 : decode cX2_digest 93 = .ok (.if_icmp .ge 48, 3) := by decide +kernel
theorem dX2_digest_96 : decode cX2_digest 96 = .ok (.aload_n 0, 1) := by decide +kernel
theorem dX2_digest_97 : decode cX2_digest 97 = .ok (.aload_n 0, 1) := by decide +kernel
theorem dX2_digest_98 : decode cX2_digest 98 = .ok (.getfield 7, 3) := by decide +kernel
theorem dX2_digest_101 : decode cX2_digest 101 = .ok (.bipush 9, 2) := by decide +kernel
theorem dX2_digest_103 : decode cX2_digest 103 = .ok (.iload_n 1, 1) := by decide +kernel
theorem dX2_digest_104 : decode cX2_digest 104 = .ok (.iadd, 1) := by decide +kernel
theorem dX2_digest_105 : decode cX2_digest 105 = .ok (.iaload, 1) := by decide +kernel
theorem dX2_digest_106 : decode cX2_digest 106 = .ok (.invokevirtual 136, 3) := by decide +kernel
theorem dX2_digest_109 : decode cX2_digest 109 = .ok (.aload_n 0, 1) := by decide +kernel
theorem dX2_digest_110 : decode cX2_digest 110 = .ok (.aload_n 0, 1) := by decide +kernel
theorem dX2_digest_111 : decode cX2_digest 111 = .ok (.getfield 7, 3) := by decide +kernel
theorem dX2_digest_114 : decode cX2_digest 114 = .ok (.bipush 14, 2) := by decide +kernel
theorem dX2_digest_116 : decode cX2_digest 116 = .ok (.iload_n 1, 1) := by decide +kernel
theorem dX2_digest_117 : decode cX2_digest 117 = .ok (.iadd, 1) := by decide +kernel
theorem dX2_digest_118 : decode cX2_digest 118 = .ok (.iaload, 1) := by decide +kernel
theorem dX2_digest_119 : decode cX2_digest 119 = .ok (.invokevirtual 136, 3) := by decide +kernel
theorem dX2_digest_122 : decode cX2_digest 122 = .ok (.aload_n 0, 1) := by decide +kernel
theorem dX2_digest_123 : decode cX2_digest 123 = .ok (.aload_n 0, 1) := by decide +kernel
theorem dX2_digest_124 : decode cX2_digest 124 = .ok (.getfield 7, 3) := by decide +kernel
theorem dX2_digest_127 : decode cX2_digest 127 = .ok (.bipush 19, 2) := by decide +kernel
theorem dX2_digest_129 : decode cX2_digest 129 = .ok (.iload_n 1, 1) := by decide +kernel
theorem dX2_digest_130 : decode cX2_digest 130 = .ok (.iadd, 1) := by decide +kernel
theorem dX2_digest_131 : decode cX2_digest 131 = .ok (.iaload, 1) := by decide +kernel
theorem dX2_digest_132 : decode cX2_digest 132 = .ok (.invokevirtual 136, 3) := by decide +kernel
theorem dX2_digest_135 : decode cX2_digest 135 = .ok (.iinc 1 1, 3) := by decide +kernel
theorem dX2_digest_138 : decode cX2_digest 138 = .ok (.goto (-47), 3) := by decide +kernel
theorem dX2_digest_141 : decode cX2_digest 141 = .ok (.iconst 0, 1) := by decide +kernel
theorem dX2_digest_142 : decode cX2_digest 142 = .ok (.istore_n 1, 1) := by decide +kernel
theorem dX2_digest_143 : decode cX2_digest 143 = .ok (.iload_n 1, 1) := by decide +kernel
theorem dX2_digest_144 : decode cX2_digest 144 = .ok (.sipush 200, 3) := by decide +kernel
theorem dX2_digest_147 : decode cX2_digest 147 = .ok (.if_icmp .ge 54, 3) := by decide +kernel
theorem dX2_digest_150 : decode cX2_digest 150 = .ok (.iload_n 1, 1) := by decide +kernel
theorem dX2_digest_151 : decode cX2_digest 151 = .ok (.bipush 40, 2) := by decide +kernel
theorem dX2_digest_153 : decode cX2_digest 153 = .ok (.idiv, 1) := by decide +kernel
theorem dX2_digest_154 : decode cX2_digest 154 = .ok (.istore_n 2, 1) := by decide +kernel
theorem dX2_digest_155 : decode cX2_digest 155 = .ok (.iload_n 1, 1) := by decide +kernel
theorem dX2_digest_156 : decode cX2_digest 156 = .ok (.bipush 8, 2) := by decide +kernel
theorem dX2_digest_158 : decode cX2_digest 158 = .ok (.idiv, 1) := by decide +kernel
theorem dX2_digest_159 : decode cX2_digest 159 = .ok (.iconst 5, 1) := by decide +kernel
theorem dX2_digest_160 : decode cX2_digest 160 = .ok (.irem, 1) := by decide +kernel
theorem dX2_digest_161 : decode cX2_digest 161 = .ok (.istore_n 3, 1) := by decide +kernel
theorem dX2_digest_162 : decode cX2_digest 162 = .ok (.iload_n 2, 1) := by decide +kernel
theorem dX2_digest_163 : decode cX2_digest 163 = .ok (.iload_n 3, 1) := by decide +kernel
theorem dX2_digest_164 : decode cX2_digest 164 = .ok (.if_icmp .eq 31, 3) := by decide +kernel
theorem dX2_digest_167 : decode cX2_digest 167 = .ok (.aload_n 0, 1) := by decide +kernel
theorem dX2_digest_168 : decode cX2_digest 168 = .ok (.aload_n 0, 1) := by decide +kernel
theorem dX2_digest_169 : decode cX2_digest 169 = .ok (.getfield 7, 3) := by decide +kernel
theorem dX2_digest_172 : decode cX2_digest 172 = .ok (.sipush 224, 3) := by decide +kernel
theorem dX2_digest_175 : decode cX2_digest 175 = .ok (.iload_n 1, 1) := by decide +kernel
theorem dX2_digest_176 : decode cX2_digest 176 = .ok (.iadd, 1) := by decide +kernel
theorem dX2_digest_177 : decode cX2_digest 177 = .ok (.iaload, 1) := by decide +kernel
theorem dX2_digest_178 : decode cX2_digest 178 = .ok (.invokevirtual 136, 3) := by decide +kernel
theorem dX2_digest_181 : decode cX2_digest 181 = .ok (.aload_n 0, 1) := by decide +kernel
theorem dX2_digest_182 : decode cX2_digest 182 = .ok (.aload_n 0, 1) := by decide +kernel
theorem dX2_digest_183 : decode cX2_digest 183 = .ok (.iload_n 2, 1) := by decide +kernel
theorem dX2_digest_184 : decode cX2_digest 184 = .ok (.iload_n 3, 1) := by decide +kernel
theorem dX2_digest_185 : decode cX2_digest 185 = .ok (.iload_n 1, 1) := by decide +kernel
theorem dX2_digest_186 : decode cX2_digest 186 = .ok (.bipush 8, 2) := by decide +kernel
theorem dX2_digest_188 : decode cX2_digest 188 = .ok (.irem, 1) := by decide +kernel
theorem dX2_digest_189 : decode cX2_digest 189 = .ok (.invokevirtual 92, 3) := by decide +kernel
theorem dX2_digest_192 : decode cX2_digest 192 = .ok (.invokevirtual 136, 3) := by decide +kernel
theorem dX2_digest_195 : decode cX2_digest 195 = .ok (.iinc 1 1, 3) := by decide +kernel
theorem dX2_digest_198 : decode cX2_digest 198 = .ok (.goto (-55), 3) := by decide +kernel
theorem dX2_digest_201 : decode cX2_digest 201 = .ok (.aload_n 0, 1) := by decide +kernel
theorem dX2_digest_202 : decode cX2_digest 202 = .ok (.getfield 130, 3) := by decide +kernel
theorem dX2_digest_205 : decode cX2_digest 205 = .ok (.lreturn, 1) := by decide +kernel
end
section
theorem dJ6_bitCount_0f7a4_0 : decode cJ6_bitCount_0f7a4 0 = .ok (.iload_n 0, 1) := by decide +kernel
theorem dJ6_bitCount_0f7a4_1 : decode cJ6_bitCount_0f7a4 1 = .ok (.iload_n 0, 1) := by decide +kernel
theorem dJ6_bitCount_0f7a4_2 : decode cJ6_bitCount_0f7a4 2 = .ok (.iconst 1, 1) := by decide +kernel
theorem dJ6_bitCount_0f7a4_3 : decode cJ6_bitCount_0f7a4 3 = .ok (.iushr, 1) := by decide +kernel
theorem dJ6_bitCount_0f7a4_4 : decode cJ6_bitCount_0f7a4 4 = .ok (.ldc_w 265, 3) := by decide +kernel
theorem dJ6_bitCount_0f7a4_7 : decode cJ6_bitCount_0f7a4 7 = .ok (.iand, 1) := by decide +kernel
theorem dJ6_bitCount_0f7a4_8 : decode cJ6_bitCount_0f7a4 8 = .ok (.isub, 1) := by decide +kernel
theorem dJ6_bitCount_0f7a4_9 : decode cJ6_bitCount_0f7a4 9 = .ok (.istore_n 0, 1) := by decide +kernel
theorem dJ6_bitCount_0f7a4_10 : decode cJ6_bitCount_0f7a4 10 = .ok (.iload_n 0, 1) := by decide +kernel
theorem dJ6_bitCount_0f7a4_11 : decode cJ6_bitCount_0f7a4 11 = .ok (.ldc_w 266, 3) := by decide +kernel
theorem dJ6_bitCount_0f7a4_14 : decode cJ6_bitCount_0f7a4 14 = .ok (.iand, 1) := by decide +kernel
theorem dJ6_bitCount_0f7a4_15 : decode cJ6_bitCount_0f7a4 15 = .ok (.iload_n 0, 1) := by decide +kernel
theorem dJ6_bitCount_0f7a4_16 : decode cJ6_bitCount_0f7a4 16 = .ok (.iconst 2, 1) := by decide +kernel
theorem dJ6_bitCount_0f7a4_17 : decode cJ6_bitCount_0f7a4 17 = .ok (.iushr, 1) := by decide +kernel
theorem dJ6_bitCount_0f7a4_18 : decode cJ6_bitCount_0f7a4 18 = .ok (.ldc_w 266, 3) := by decide +kernel
theorem dJ6_bitCount_0f7a4_21 : decode cJ6_bitCount_0f7a4 21 = .ok (.iand, 1) := by decide +kernel
theorem dJ6_bitCount_0f7a4_22 : decode cJ6_bitCount_0f7a4 22 = .ok (.iadd, 1) := by decide +kernel
theorem dJ6_bitCount_0f7a4_23 : decode cJ6_bitCount_0f7a4 23 = .ok (.istore_n 0, 1) := by decide +kernel
theorem dJ6_bitCount_0f7a4_24 : decode cJ6_bitCount_0f7a4 24 = .ok (.iload_n 0, 1) := by decide +kernel
theorem dJ6_bitCount_0f7a4_25 : decode cJ6_bitCount_0f7a4 25 = .ok (.iload_n 0, 1) := by decide +kernel
theorem dJ6_bitCount_0f7a4_26 : decode cJ6_bitCount_0f7a4 26 = .ok (.iconst 4, 1) := by decide +kernel
theorem dJ6_bitCount_0f7a4_27 : decode cJ6_bitCount_0f7a4 27 = .ok (.iushr, 1) := by decide +kernel
theorem dJ6_bitCount_0f7a4_28 : decode cJ6_bitCount_0f7a4 28 = .ok (.iadd, 1) := by decide +kernel
theorem dJ6_bitCount_0f7a4_29 : decode cJ6_bitCount_0f7a4 29 = .ok (.ldc_w 267, 3) := by decide +kernel
theorem dJ6_bitCount_0f7a4_32 : decode cJ6_bitCount_0f7a4 32 = .ok (.iand, 1) := by decide +kernel
theorem dJ6_bitCount_0f7a4_33 : decode cJ6_bitCount_0f7a4 33 = .ok (.istore_n 0, 1) := by decide +kernel
theorem dJ6_bitCount_0f7a4_34 : decode cJ6_bitCount_0f7a4 34 = .ok (.iload_n 0, 1) := by decide +kernel
theorem dJ6_bitCount_0f7a4_35 : decode cJ6_bitCount_0f7a4 35 = .ok (.iload_n 0, 1) := by decide +kernel
theorem dJ6_bitCount_0f7a4_36 : decode cJ6_bitCount_0f7a4 36 = .ok (.bipush 8, 2) := by decide +kernel
theorem dJ6_bitCount_0f7a4_38 : decode cJ6_bitCount_0f7a4 38 = .ok (.iushr, 1) := by decide +kernel
theorem dJ6_bitCount_0f7a4_39 : decode cJ6_bitCount_0f7a4 39 = .ok (.iadd, 1) := by decide +kernel
theorem dJ6_bitCount_0f7a4_40 : decode cJ6_bitCount_0f7a4 40 = .ok (.istore_n 0, 1) := by decide +kernel
theorem dJ6_bitCount_0f7a4_41 : decode cJ6_bitCount_0f7a4 41 = .ok (.iload_n 0, 1) := by decide +kernel
theorem dJ6_bitCount_0f7a4_42 : decode cJ6_bitCount_0f7a4 42 = .ok (.iload_n 0, 1) := by decide +kernel
theorem dJ6_bitCount_0f7a4_43 : decode cJ6_bitCount_0f7a4 43 = .ok (.bipush 16, 2) := by decide +kernel
theorem dJ6_bitCount_0f7a4_45 : decode cJ6_bitCount_0f7a4 45 = .ok (.iushr, 1) := by decide +kernel
theorem dJ6_bitCount_0f7a4_46 : decode cJ6_bitCount_0f7a4 46 = .ok (.iadd, 1) := by decide +kernel
theorem dJ6_bitCount_0f7a4_47 : decode cJ6_bitCount_0f7a4 47 = .ok (.istore_n 0, 1) := by decide +kernel
theorem dJ6_bitCount_0f7a4_48 : decode cJ6_bitCount_0f7a4 48 = .ok (.iload_n 0, 1) := by decide +kernel
theorem dJ6_bitCount_0f7a4_49 : decode cJ6_bitCount_0f7a4 49 = .ok (.bipush 63, 2) := by decide +kernel
theorem dJ6_bitCount_0f7a4_51 : decode cJ6_bitCount_0f7a4 51 = .ok (.iand, 1) := by decide +kernel
theorem dJ6_bitCount_0f7a4_52 : decode cJ6_bitCount_0f7a4 52 = .ok (.ireturn, 1) := by decide +kernel
theorem dJ9_floorMod_7cf53_0 : decode cJ9_floorMod_7cf53 0 = .ok (.iload_n 0, 1) := by decide +kernel
theorem dJ9_floorMod_7cf53_1 : decode cJ9_floorMod_7cf53 1 = .ok (.iload_n 1, 1) := by decide +kernel
theorem dJ9_floorMod_7cf53_2 : decode cJ9_floorMod_7cf53 2 = .ok (.irem, 1) := by decide +kernel
theorem dJ9_floorMod_7cf53_3 : decode cJ9_floorMod_7cf53 3 = .ok (.istore_n 2, 1) := by decide +kernel
theorem dJ9_floorMod_7cf53_4 : decode cJ9_floorMod_7cf53 4 = .ok (.iload_n 0, 1) := by decide +kernel
theorem dJ9_floorMod_7cf53_5 : decode cJ9_floorMod_7cf53 5 = .ok (.iload_n 1, 1) := by decide +kernel
theorem dJ9_floorMod_7cf53_6 : decode cJ9_floorMod_7cf53 6 = .ok (.ixor, 1) := by decide +kernel
theorem dJ9_floorMod_7cf53_7 : decode cJ9_floorMod_7cf53 7 = .ok (.ifCond .ge 11, 3) := by decide +kernel
theorem dJ9_floorMod_7cf53_10 : decode cJ9_floorMod_7cf53 10 = .ok (.iload_n 2, 1) := by decide +kernel
theorem dJ9_floorMod_7cf53_11 : decode cJ9_floorMod_7cf53 11 = .ok (.ifCond .eq 7, 3) := by decide +kernel
theorem dJ9_floorMod_7cf53_14 : decode cJ9_floorMod_7cf53 14 = .ok (.iload_n 2, 1) := by decide +kernel
theorem dJ9_floorMod_7cf53_15 : decode cJ9_floorMod_7cf53 15 = .ok (.iload_n 1, 1) := by decide +kernel
theorem dJ9_floorMod_7cf53_16 : decode cJ9_floorMod_7cf53 16 = .ok (.iadd, 1) := by decide +kernel
theorem dJ9_floorMod_7cf53_17 : decode cJ9_floorMod_7cf53 17 = .ok (.ireturn, 1) := by decide +kernel
theorem dJ9_floorMod_7cf53_18 : decode cJ9_floorMod_7cf53 18 = .ok (.iload_n 2, 1) := by decide +kernel
theorem dJ9_floorMod_7cf53_19 : decode cJ9_floorMod_7cf53 19 = .ok (.ireturn, 1) := by decide +kernel
theorem dJ9_max_7cf53_0 : decode cJ9_max_7cf53 0 = .ok (.iload_n 0, 1) := by decide +kernel
theorem dJ9_max_7cf53_1 : decode cJ9_max_7cf53 1 = .ok (.iload_n 1, 1) := by decide +kernel
theorem dJ9_max_7cf53_2 : decode cJ9_max_7cf53 2 = .ok (.if_icmp .lt 7, 3) := by decide +kernel
theorem dJ9_max_7cf53_5 : decode cJ9_max_7cf53 5 = .ok (.iload_n 0, 1) := by decide +kernel
theorem dJ9_max_7cf53_6 : decode cJ9_max_7cf53 6 = .ok (.goto 4, 3) := by decide +kernel
theorem dJ9_max_7cf53_9 : decode cJ9_max_7cf53 9 = .ok (.iload_n 1, 1) := by decide +kernel
theorem dJ9_max_7cf53_10 : decode cJ9_max_7cf53 10 = .ok (.ireturn, 1) := by decide +kernel
theorem dJ9_min_7cf53_0 : decode cJ9_min_7cf53 0 = .ok (.iload_n 0, 1) := by decide +kernel
theorem dJ9_min_7cf53_1 : decode cJ9_min_7cf53 1 = .ok (.iload_n 1, 1) := by decide +kernel
theorem dJ9_min_7cf53_2 : decode cJ9_min_7cf53 2 = .ok (.if_icmp .gt 7, 3) := by decide +kernel
theorem dJ9_min_7cf53_5 : decode cJ9_min_7cf53 5 = .ok (.iload_n 0, 1) := by decide +kernel
theorem dJ9_min_7cf53_6 : decode cJ9_min_7cf53 6 = .ok (.goto 4, 3) := by decide +kernel
theorem dJ9_min_7cf53_9 : decode cJ9_min_7cf53 9 = .ok (.iload_n 1, 1) := by decide +kernel
theorem dJ9_min_7cf53_10 : decode cJ9_min_7cf53 10 = .ok (.ireturn, 1) := by decide +kernel
theorem dJ7_fill_53178_0 : decode cJ7_fill_53178 0 = .ok (.iconst 0, 1) := by decide +kernel
theorem dJ7_fill_53178_1 : decode cJ7_fill_53178 1 = .ok (.istore_n 2, 1) := by decide +kernel
theorem dJ7_fill_53178_2 : decode cJ7_fill_53178 2 = .ok (.aload_n 0, 1) := by decide +kernel
theorem dJ7_fill_53178_3 : decode cJ7_fill_53178 3 = .ok (.arraylength, 1) := by decide +kernel
theorem dJ7_fill_53178_4 : decode cJ7_fill_53178 4 = .ok (.istore_n 3, 1) := by decide +kernel
theorem dJ7_fill_53178_5 : decode cJ7_fill_53178 5 = .ok (.iload_n 2, 1) := by decide +kernel
theorem dJ7_fill_53178_6 : decode cJ7_fill_53178 6 = .ok (.iload_n 3, 1) := by decide +kernel
theorem dJ7_fill_53178_7 : decode cJ7_fill_53178 7 = .ok (.if_icmp .ge 13, 3) := by decide +kernel
theorem dJ7_fill_53178_10 : decode cJ7_fill_53178 10 = .ok (.aload_n 0, 1) := by decide +kernel
theorem dJ7_fill_53178_11 : decode cJ7_fill_53178 11 = .ok (.iload_n 2, 1) := by decide +kernel
theorem dJ7_fill_53178_12 : decode cJ7_fill_53178 12 = .ok (.iload_n 1, 1) := by decide +kernel
theorem dJ7_fill_53178_13 : decode cJ7_fill_53178 13 = .ok (.iastore, 1) := by decide +kernel
theorem dJ7_fill_53178_14 : decode cJ7_fill_53178 14 = .ok (.iinc 2 1, 3) := by decide +kernel
theorem dJ7_fill_53178_17 : decode cJ7_fill_53178 17 = .ok (.goto (-12), 3) := by decide +kernel
theorem dJ7_fill_53178_20 : decode cJ7_fill_53178 20 = .ok (.return_, 1) := by decide +kernel
set_option maxRecDepth 20000 in
theorem ggL_law_X1_init : GoodIn wsL_law wsX1_init := goodIn_r _ [8, 9, 10, 11, 12, 13, 14, 15, 16, 17, 18, 19, 20, 21, 22, 23, 24, 25, 26, 27, 28, 29, 30, 31, 32, 33, 34, 35, 36, 37, 594, 595, 596, 597, 598, 599, 600, 601, 602, 603, 604, 605, 606, 607, 608, 609, 581, 582, 583, 584, 585, 586] (by decide +kernel) (by decide +kernel)
set_option maxRecDepth 20000 in
theorem gL_law_X1_init : GoodIn wsL_law (wsX1_init) := ggL_law_X1_init
set_option maxRecDepth 20000 in
theorem ggL_law_X2_init : GoodIn wsL_law wsX2_init := goodIn_r _ [40, 41, 10, 11, 26, 42, 43, 44, 45, 46, 587, 588, 589, 590, 591, 592, 593] (by decide +kernel) (by decide +kernel)
set_option maxRecDepth 20000 in
theorem gL_law_X2_init : GoodIn wsL_law (wsX2_init) := ggL_law_X2_init
set_option maxRecDepth 20000 in
theorem ggL_law_X1_setScan : GoodIn wsL_law wsX1_setScan := goodIn_r _ [50, 15, 51, 52, 53, 2, 54, 55, 56, 57, 58, 59, 60, 61, 62, 63, 16, 64, 65, 66, 67, 68, 69, 70, 71, 72, 14, 73, 74, 21, 22, 75, 76, 77, 23, 24, 25, 27, 78, 79, 80, 81, 28, 29, 30, 31, 32, 581, 582, 583, 584, 585, 586, 594, 595, 596, 597, 598, 599, 600, 601, 602, 603, 604, 605, 606, 607, 608, 609] (by decide +kernel) (by decide +kernel)
set_option maxRecDepth 20000 in
theorem gL_law_X1_setScan : GoodIn wsL_law (wsV RL 13 RX1 yX1_setScan wsX1_setScan) := goodIn_app (goodIn_of _ (by decide +kernel)) ggL_law_X1_setScan
set_option maxRecDepth 20000 in
theorem ggL_law_X2_setScan : GoodIn wsL_law wsX2_setScan := goodIn_r _ [85, 42, 86, 87, 5, 88, 89, 90, 91, 92, 93, 94, 95, 44, 96, 97, 98, 99, 100, 43, 587, 588, 589, 590, 591, 592, 593] (by decide +kernel) (by decide +kernel)
set_option maxRecDepth 20000 in
theorem gL_law_X2_setScan : GoodIn wsL_law (wsV RL 17 RX2 yX2_setScan wsX2_setScan) := goodIn_app (goodIn_of _ (by decide +kernel)) ggL_law_X2_setScan
set_option maxRecDepth 20000 in
theorem ggL_law_X1_setQuality : GoodIn wsL_law wsX1_setQuality := goodIn_r _ [104, 15, 105, 106, 107, 2, 108, 109, 110, 111, 52, 53, 54, 112, 113, 114, 55, 56, 57, 58, 59, 60, 61, 62, 63, 16, 64, 65, 66, 67, 68, 69, 70, 71, 72, 14, 73, 74, 21, 22, 75, 76, 77, 23, 24, 25, 27, 78, 79, 80, 81, 28, 29, 30, 31, 32, 115, 116, 117, 581, 582, 583, 584, 585, 586, 594, 595, 596, 597, 598, 599, 600, 601, 602, 603, 604, 605, 606, 607, 608, 609] (by decide +kernel) (by decide +kernel)
set_option maxRecDepth 20000 in
theorem gL_law_X1_setQuality : GoodIn wsL_law (wsV RL 18 RX1 yX1_setQuality wsX1_setQuality) := goodIn_app (goodIn_of _ (by decide +kernel)) ggL_law_X1_setQuality
set_option maxRecDepth 20000 in
theorem ggL_law_X2_setQuality : GoodIn wsL_law wsX2_setQuality := goodIn_r _ [121, 42, 122, 123, 5, 124, 86, 87, 88, 89, 90, 91, 125, 126, 127, 92, 93, 94, 95, 44, 96, 97, 98, 99, 100, 43, 128, 129, 130, 587, 588, 589, 590, 591, 592, 593] (by decide +kernel) (by decide +kernel)
set_option maxRecDepth 20000 in
theorem gL_law_X2_setQuality : GoodIn wsL_law (wsV RL 22 RX2 yX2_setQuality wsX2_setQuality) := goodIn_app (goodIn_of _ (by decide +kernel)) ggL_law_X2_setQuality
set_option maxRecDepth 20000 in
theorem ggL_law_X1_setAgeing : GoodIn wsL_law wsX1_setAgeing := goodIn_r _ [134, 15, 135, 55, 56, 57, 2, 58, 59, 60, 61, 62, 63, 16, 64, 65, 66, 67, 68, 69, 70, 71, 72, 14, 73, 74, 21, 22, 75, 76, 77, 23, 24, 25, 27, 78, 79, 80, 81, 28, 29, 30, 31, 32, 581, 582, 583, 584, 585, 586, 594, 595, 596, 597, 598, 599, 600, 601, 602, 603, 604, 605, 606, 607, 608, 609] (by decide +kernel) (by decide +kernel)
set_option maxRecDepth 20000 in
theorem gL_law_X1_setAgeing : GoodIn wsL_law (wsV RL 23 RX1 yX1_setAgeing wsX1_setAgeing) := goodIn_app (goodIn_of _ (by decide +kernel)) ggL_law_X1_setAgeing
set_option maxRecDepth 20000 in
theorem ggL_law_X2_setAgeing : GoodIn wsL_law wsX2_setAgeing := goodIn_r _ [139, 42, 89, 90, 5, 91, 92, 93, 94, 95, 44, 96, 97, 98, 99, 100, 43, 587, 588, 589, 590, 591, 592, 593] (by decide +kernel) (by decide +kernel)
set_option maxRecDepth 20000 in
theorem gL_law_X2_setAgeing : GoodIn wsL_law (wsV RL 27 RX2 yX2_setAgeing wsX2_setAgeing) := goodIn_app (goodIn_of _ (by decide +kernel)) ggL_law_X2_setAgeing
set_option maxRecDepth 20000 in
theorem ggL_law_X1_setNoise : GoodIn wsL_law wsX1_setNoise := goodIn_r _ [143, 15, 144, 145, 55, 56, 57, 2, 58, 59, 60, 61, 62, 63, 16, 64, 65, 66, 67, 68, 69, 70, 71, 72, 14, 73, 74, 21, 22, 75, 76, 77, 23, 24, 25, 27, 78, 79, 80, 81, 28, 29, 30, 31, 32, 581, 582, 583, 584, 585, 586, 594, 595, 596, 597, 598, 599, 600, 601, 602, 603, 604, 605, 606, 607, 608, 609] (by decide +kernel) (by decide +kernel)
set_option maxRecDepth 20000 in
theorem gL_law_X1_setNoise : GoodIn wsL_law (wsV RL 28 RX1 yX1_setNoise wsX1_setNoise) := goodIn_app (goodIn_of _ (by decide +kernel)) ggL_law_X1_setNoise
set_option maxRecDepth 20000 in
theorem ggL_law_X2_setNoise : GoodIn wsL_law wsX2_setNoise := goodIn_r _ [149, 42, 92, 93, 94, 5, 95, 44, 96, 97, 98, 99, 100, 43, 587, 588, 589, 590, 591, 592, 593] (by decide +kernel) (by decide +kernel)
set_option maxRecDepth 20000 in
theorem gL_law_X2_setNoise : GoodIn wsL_law (wsV RL 31 RX2 yX2_setNoise wsX2_setNoise) := goodIn_app (goodIn_of _ (by decide +kernel)) ggL_law_X2_setNoise
set_option maxRecDepth 20000 in
theorem ggL_law_X1_pass : GoodIn wsL_law wsX1_pass := goodIn_r _ [153, 15, 145, 55, 56, 57, 2, 58, 59, 60, 61, 62, 63, 16, 64, 65, 66, 67, 68, 69, 70, 71, 72, 14, 73, 74, 21, 22, 75, 76, 77, 23, 24, 25, 27, 78, 79, 80, 81, 28, 29, 30, 31, 32, 581, 582, 583, 584, 585, 586, 594, 595, 596, 597, 598, 599, 600, 601, 602, 603, 604, 605, 606, 607, 608, 609] (by decide +kernel) (by decide +kernel)
set_option maxRecDepth 20000 in
theorem gL_law_X1_pass : GoodIn wsL_law (wsV RL 32 RX1 yX1_pass wsX1_pass) := goodIn_app (goodIn_of _ (by decide +kernel)) ggL_law_X1_pass
set_option maxRecDepth 20000 in
theorem ggL_law_X2_pass : GoodIn wsL_law wsX2_pass := goodIn_r _ [157, 42, 89, 90, 5, 91, 92, 93, 94, 95, 44, 96, 97, 98, 99, 100, 43, 587, 588, 589, 590, 591, 592, 593] (by decide +kernel) (by decide +kernel)
set_option maxRecDepth 20000 in
theorem gL_law_X2_pass : GoodIn wsL_law (wsV RL 35 RX2 yX2_pass wsX2_pass) := goodIn_app (goodIn_of _ (by decide +kernel)) ggL_law_X2_pass
set_option maxRecDepth 20000 in
theorem ggL_law_X1_sound : GoodIn wsL_law wsX1_sound := goodIn_r _ [161, 15, 52, 53, 2, 54, 112, 113, 114, 55, 56, 57, 58, 59, 162, 163, 164, 14, 165, 28, 166, 167, 168, 169, 170, 60, 61, 62, 63, 16, 64, 65, 66, 67, 68, 69, 70, 71, 72, 73, 74, 21, 22, 75, 76, 77, 23, 24, 25, 27, 78, 79, 80, 81, 29, 30, 31, 32, 171, 172, 173, 174, 175, 176, 177, 178, 179, 180, 181, 182, 183, 184, 185, 186, 187, 188, 189, 190, 191, 192, 193, 194, 195, 196, 197, 198, 199, 200, 116, 117, 201, 202, 203, 204, 205, 206, 207, 208, 209, 210, 211, 212, 581, 582, 583, 584, 585, 586, 594, 595, 596, 597, 598, 599, 600, 601, 602, 603, 604, 605, 606, 607, 608, 609] (by decide +kernel) (by decide +kernel)
set_option maxRecDepth 20000 in
theorem gL_law_X1_sound : GoodIn wsL_law (wsV RL 36 RX1 yX1_sound wsX1_sound) := goodIn_app (goodIn_of _ (by decide +kernel)) ggL_law_X1_sound
set_option maxRecDepth 20000 in
theorem ggL_law_X2_sound : GoodIn wsL_law wsX2_sound := goodIn_r _ [216, 42, 86, 87, 5, 88, 89, 90, 91, 125, 126, 127, 92, 93, 94, 95, 44, 217, 218, 219, 220, 96, 97, 98, 99, 100, 43, 221, 222, 223, 224, 225, 226, 227, 228, 229, 230, 231, 232, 233, 234, 235, 236, 237, 238, 239, 128, 129, 130, 240, 241, 242, 243, 244, 245, 246, 247, 248, 249, 250, 251, 252, 253, 587, 588, 589, 590, 591, 592, 593] (by decide +kernel) (by decide +kernel)
set_option maxRecDepth 20000 in
theorem gL_law_X2_sound : GoodIn wsL_law (wsV RL 39 RX2 yX2_sound wsX2_sound) := goodIn_app (goodIn_of _ (by decide +kernel)) ggL_law_X2_sound
set_option maxRecDepth 20000 in
theorem ggL_law_X1_call : GoodIn wsL_law wsX1_call := goodIn_r _ [257, 15, 109, 110, 2, 111, 52, 53, 54, 55, 56, 57, 58, 59, 162, 163, 164, 14, 165, 28, 166, 167, 168, 169, 170, 60, 61, 62, 63, 16, 64, 65, 66, 67, 68, 69, 70, 71, 72, 73, 74, 21, 22, 75, 76, 77, 23, 24, 25, 27, 78, 79, 80, 81, 29, 30, 31, 32, 258, 259, 260, 261, 262, 263, 264, 265, 33, 266, 267, 268, 269, 270, 182, 183, 271, 272, 273, 274, 179, 180, 181, 116, 117, 275, 276, 277, 278, 279, 280, 281, 282, 184, 185, 186, 187, 188, 189, 190, 191, 192, 193, 194, 195, 196, 197, 198, 199, 200, 201, 202, 203, 204, 205, 206, 207, 208, 209, 210, 211, 212, 283, 284, 285, 286, 581, 582, 583, 584, 585, 586, 594, 595, 596, 597, 598, 599, 600, 601, 602, 603, 604, 605, 606, 607, 608, 609] (by decide +kernel) (by decide +kernel)
set_option maxRecDepth 20000 in
theorem gL_law_X1_call : GoodIn wsL_law (wsV RL 40 RX1 yX1_call wsX1_call) := goodIn_app (goodIn_of _ (by decide +kernel)) ggL_law_X1_call
set_option maxRecDepth 20000 in
theorem ggL_law_X2_call : GoodIn wsL_law wsX2_call := goodIn_r _ [290, 42, 45, 122, 123, 5, 124, 86, 87, 88, 89, 90, 91, 92, 93, 94, 95, 44, 217, 218, 219, 220, 96, 97, 98, 99, 100, 43, 291, 292, 293, 294, 46, 225, 226, 227, 295, 296, 297, 298, 128, 129, 130, 299, 300, 301, 302, 228, 229, 230, 235, 236, 237, 238, 239, 240, 241, 242, 243, 244, 245, 246, 247, 248, 249, 250, 251, 252, 253, 303, 304, 305, 306, 587, 588, 589, 590, 591, 592, 593] (by decide +kernel) (by decide +kernel)
set_option maxRecDepth 20000 in
theorem gL_law_X2_call : GoodIn wsL_law (wsV RL 43 RX2 yX2_call wsX2_call) := goodIn_app (goodIn_of _ (by decide +kernel)) ggL_law_X2_call
set_option maxRecDepth 20000 in
theorem ggL_law_X1_netCall : GoodIn wsL_law wsX1_netCall := goodIn_r _ [310, 15, 311, 312, 2, 313, 52, 53, 54, 314, 182, 183, 55, 56, 57, 58, 59, 162, 163, 164, 14, 165, 28, 166, 167, 168, 169, 170, 60, 61, 62, 63, 16, 64, 65, 66, 67, 68, 69, 70, 71, 72, 73, 74, 21, 22, 75, 76, 77, 23, 24, 25, 27, 78, 79, 80, 81, 29, 30, 31, 32, 315, 316, 317, 318, 319, 320, 321, 322, 262, 263, 264, 265, 33, 266, 267, 268, 269, 270, 271, 272, 273, 274, 179, 180, 181, 116, 117, 275, 276, 277, 278, 175, 176, 177, 178, 184, 185, 186, 187, 188, 189, 190, 323, 324, 325, 326, 191, 192, 193, 194, 195, 196, 197, 198, 199, 200, 201, 202, 203, 204, 205, 206, 207, 208, 209, 210, 211, 212, 283, 284, 285, 286, 581, 582, 583, 584, 585, 586, 594, 595, 596, 597, 598, 599, 600, 601, 602, 603, 604, 605, 606, 607, 608, 609] (by decide +kernel) (by decide +kernel)
set_option maxRecDepth 20000 in
theorem gL_law_X1_netCall : GoodIn wsL_law (wsV RL 44 RX1 yX1_netCall wsX1_netCall) := goodIn_app (goodIn_of _ (by decide +kernel)) ggL_law_X1_netCall
set_option maxRecDepth 20000 in
theorem ggL_law_X2_netCall : GoodIn wsL_law wsX2_netCall := goodIn_r _ [330, 42, 331, 332, 5, 333, 86, 87, 88, 89, 90, 91, 225, 226, 227, 92, 93, 94, 95, 44, 217, 218, 219, 220, 96, 97, 98, 99, 100, 43, 334, 335, 336, 337, 338, 339, 340, 341, 295, 296, 297, 298, 128, 129, 130, 221, 222, 223, 224, 228, 229, 230, 342, 343, 344, 345, 235, 236, 237, 238, 239, 240, 241, 242, 243, 244, 245, 246, 247, 248, 249, 250, 251, 252, 253, 303, 304, 305, 306, 587, 588, 589, 590, 591, 592, 593] (by decide +kernel) (by decide +kernel)
set_option maxRecDepth 20000 in
theorem gL_law_X2_netCall : GoodIn wsL_law (wsV RL 47 RX2 yX2_netCall wsX2_netCall) := goodIn_app (goodIn_of _ (by decide +kernel)) ggL_law_X2_netCall
set_option maxRecDepth 20000 in
theorem ggL_law_X1_hangUp : GoodIn wsL_law wsX1_hangUp := goodIn_r _ [349, 15, 52, 53, 2, 54, 55, 56, 57, 58, 59, 162, 163, 164, 14, 165, 28, 166, 167, 168, 169, 170, 60, 61, 62, 63, 16, 64, 65, 66, 67, 68, 69, 70, 71, 72, 73, 74, 21, 22, 75, 76, 77, 23, 24, 25, 27, 78, 79, 80, 81, 29, 30, 31, 32, 350, 351, 352, 353, 184, 185, 186, 187, 188, 189, 190, 354, 355, 356, 357, 182, 183, 581, 582, 583, 584, 585, 586, 594, 595, 596, 597, 598, 599, 600, 601, 602, 603, 604, 605, 606, 607, 608, 609] (by decide +kernel) (by decide +kernel)
set_option maxRecDepth 20000 in
theorem gL_law_X1_hangUp : GoodIn wsL_law (wsV RL 48 RX1 yX1_hangUp wsX1_hangUp) := goodIn_app (goodIn_of _ (by decide +kernel)) ggL_law_X1_hangUp
set_option maxRecDepth 20000 in
theorem ggL_law_X2_hangUp : GoodIn wsL_law wsX2_hangUp := goodIn_r _ [361, 42, 86, 87, 5, 88, 89, 90, 91, 92, 93, 94, 95, 44, 217, 218, 219, 220, 96, 97, 98, 99, 100, 43, 362, 363, 364, 365, 228, 229, 230, 225, 226, 227, 587, 588, 589, 590, 591, 592, 593] (by decide +kernel) (by decide +kernel)
set_option maxRecDepth 20000 in
theorem gL_law_X2_hangUp : GoodIn wsL_law (wsV RL 51 RX2 yX2_hangUp wsX2_hangUp) := goodIn_app (goodIn_of _ (by decide +kernel)) ggL_law_X2_hangUp
set_option maxRecDepth 20000 in
theorem ggL_law_X1_attempts : GoodIn wsL_law wsX1_attempts := goodIn_r _ [369, 15, 370, 581, 582, 583, 584, 585, 586, 594, 595, 596, 597, 598, 599, 600, 601, 602, 603, 604, 605, 606, 607, 608, 609] (by decide +kernel) (by decide +kernel)
set_option maxRecDepth 20000 in
theorem gL_law_X1_attempts : GoodIn wsL_law (wsV RL 52 RX1 yX1_attempts wsX1_attempts) := goodIn_app (goodIn_of _ (by decide +kernel)) ggL_law_X1_attempts
set_option maxRecDepth 20000 in
theorem ggL_law_X2_attempts : GoodIn wsL_law wsX2_attempts := goodIn_r _ [374, 42, 587, 588, 589, 590, 591, 592, 593] (by decide +kernel) (by decide +kernel)
set_option maxRecDepth 20000 in
theorem gL_law_X2_attempts : GoodIn wsL_law (wsV RL 56 RX2 yX2_attempts wsX2_attempts) := goodIn_app (goodIn_of _ (by decide +kernel)) ggL_law_X2_attempts
set_option maxRecDepth 20000 in
theorem ggL_law_X1_lastChannel : GoodIn wsL_law wsX1_lastChannel := goodIn_r _ [378, 15, 379, 581, 582, 583, 584, 585, 586, 594, 595, 596, 597, 598, 599, 600, 601, 602, 603, 604, 605, 606, 607, 608, 609] (by decide +kernel) (by decide +kernel)
set_option maxRecDepth 20000 in
theorem gL_law_X1_lastChannel : GoodIn wsL_law (wsV RL 57 RX1 yX1_lastChannel wsX1_lastChannel) := goodIn_app (goodIn_of _ (by decide +kernel)) ggL_law_X1_lastChannel
set_option maxRecDepth 20000 in
theorem ggL_law_X2_lastChannel : GoodIn wsL_law wsX2_lastChannel := goodIn_r _ [383, 42, 587, 588, 589, 590, 591, 592, 593] (by decide +kernel) (by decide +kernel)
set_option maxRecDepth 20000 in
theorem gL_law_X2_lastChannel : GoodIn wsL_law (wsV RL 60 RX2 yX2_lastChannel wsX2_lastChannel) := goodIn_app (goodIn_of _ (by decide +kernel)) ggL_law_X2_lastChannel
set_option maxRecDepth 20000 in
theorem ggL_law_X1_lastUnanimous : GoodIn wsL_law wsX1_lastUnanimous := goodIn_r _ [387, 15, 388, 581, 582, 583, 584, 585, 586, 594, 595, 596, 597, 598, 599, 600, 601, 602, 603, 604, 605, 606, 607, 608, 609] (by decide +kernel) (by decide +kernel)
set_option maxRecDepth 20000 in
theorem gL_law_X1_lastUnanimous : GoodIn wsL_law (wsV RL 61 RX1 yX1_lastUnanimous wsX1_lastUnanimous) := goodIn_app (goodIn_of _ (by decide +kernel)) ggL_law_X1_lastUnanimous
set_option maxRecDepth 20000 in
theorem ggL_law_X2_lastUnanimous : GoodIn wsL_law wsX2_lastUnanimous := goodIn_r _ [392, 42, 587, 588, 589, 590, 591, 592, 593] (by decide +kernel) (by decide +kernel)
set_option maxRecDepth 20000 in
theorem gL_law_X2_lastUnanimous : GoodIn wsL_law (wsV RL 64 RX2 yX2_lastUnanimous wsX2_lastUnanimous) := goodIn_app (goodIn_of _ (by decide +kernel)) ggL_law_X2_lastUnanimous
set_option maxRecDepth 20000 in
theorem ggL_law_X1_lastVoted : GoodIn wsL_law wsX1_lastVoted := goodIn_r _ [396, 15, 397, 581, 582, 583, 584, 585, 586, 594, 595, 596, 597, 598, 599, 600, 601, 602, 603, 604, 605, 606, 607, 608, 609] (by decide +kernel) (by decide +kernel)
set_option maxRecDepth 20000 in
theorem gL_law_X1_lastVoted : GoodIn wsL_law (wsV RL 65 RX1 yX1_lastVoted wsX1_lastVoted) := goodIn_app (goodIn_of _ (by decide +kernel)) ggL_law_X1_lastVoted
set_option maxRecDepth 20000 in
theorem ggL_law_X2_lastVoted : GoodIn wsL_law wsX2_lastVoted := goodIn_r _ [401, 42, 587, 588, 589, 590, 591, 592, 593] (by decide +kernel) (by decide +kernel)
set_option maxRecDepth 20000 in
theorem gL_law_X2_lastVoted : GoodIn wsL_law (wsV RL 68 RX2 yX2_lastVoted wsX2_lastVoted) := goodIn_app (goodIn_of _ (by decide +kernel)) ggL_law_X2_lastVoted
set_option maxRecDepth 20000 in
theorem ggL_law_X1_scan : GoodIn wsL_law wsX1_scan := goodIn_r _ [405, 15, 51, 52, 53, 2, 54, 55, 56, 57, 58, 59, 581, 582, 583, 584, 585, 586, 594, 595, 596, 597, 598, 599, 600, 601, 602, 603, 604, 605, 606, 607, 608, 609] (by decide +kernel) (by decide +kernel)
set_option maxRecDepth 20000 in
theorem gL_law_X1_scan : GoodIn wsL_law (wsV RL 69 RX1 yX1_scan wsX1_scan) := goodIn_app (goodIn_of _ (by decide +kernel)) ggL_law_X1_scan
set_option maxRecDepth 20000 in
theorem ggL_law_X2_scan : GoodIn wsL_law wsX2_scan := goodIn_r _ [409, 42, 86, 87, 5, 88, 89, 90, 91, 92, 93, 94, 95, 44, 587, 588, 589, 590, 591, 592, 593] (by decide +kernel) (by decide +kernel)
set_option maxRecDepth 20000 in
theorem gL_law_X2_scan : GoodIn wsL_law (wsV RL 72 RX2 yX2_scan wsX2_scan) := goodIn_app (goodIn_of _ (by decide +kernel)) ggL_law_X2_scan
set_option maxRecDepth 20000 in
theorem ggL_law_X1_listening : GoodIn wsL_law wsX1_listening := goodIn_r _ [413, 15, 52, 53, 2, 54, 55, 56, 57, 58, 59, 414, 415, 416, 14, 417, 27, 74, 184, 185, 186, 187, 188, 189, 190, 195, 163, 164, 165, 28, 418, 419, 420, 421, 182, 183, 581, 582, 583, 584, 585, 586, 594, 595, 596, 597, 598, 599, 600, 601, 602, 603, 604, 605, 606, 607, 608, 609] (by decide +kernel) (by decide +kernel)
set_option maxRecDepth 20000 in
theorem gL_law_X1_listening : GoodIn wsL_law (wsV RL 73 RX1 yX1_listening wsX1_listening) := goodIn_app (goodIn_of _ (by decide +kernel)) ggL_law_X1_listening
set_option maxRecDepth 20000 in
theorem ggL_law_X2_listening : GoodIn wsL_law wsX2_listening := goodIn_r _ [425, 42, 86, 87, 5, 88, 89, 90, 91, 92, 93, 94, 95, 44, 217, 218, 219, 220, 231, 232, 233, 234, 228, 229, 230, 225, 226, 227, 587, 588, 589, 590, 591, 592, 593] (by decide +kernel) (by decide +kernel)
set_option maxRecDepth 20000 in
theorem gL_law_X2_listening : GoodIn wsL_law (wsV RL 76 RX2 yX2_listening wsX2_listening) := goodIn_app (goodIn_of _ (by decide +kernel)) ggL_law_X2_listening
set_option maxRecDepth 20000 in
theorem ggL_law_X1_quality : GoodIn wsL_law wsX1_quality := goodIn_r _ [429, 15, 105, 106, 107, 2, 108, 109, 110, 111, 52, 53, 54, 112, 113, 114, 55, 56, 57, 58, 59, 115, 116, 117, 581, 582, 583, 584, 585, 586, 594, 595, 596, 597, 598, 599, 600, 601, 602, 603, 604, 605, 606, 607, 608, 609] (by decide +kernel) (by decide +kernel)
set_option maxRecDepth 20000 in
theorem gL_law_X1_quality : GoodIn wsL_law (wsV RL 77 RX1 yX1_quality wsX1_quality) := goodIn_app (goodIn_of _ (by decide +kernel)) ggL_law_X1_quality
set_option maxRecDepth 20000 in
theorem ggL_law_X2_quality : GoodIn wsL_law wsX2_quality := goodIn_r _ [433, 42, 434, 435, 5, 436, 122, 123, 124, 86, 87, 88, 89, 90, 91, 125, 126, 127, 128, 129, 130, 92, 93, 94, 95, 44, 587, 588, 589, 590, 591, 592, 593] (by decide +kernel) (by decide +kernel)
set_option maxRecDepth 20000 in
theorem gL_law_X2_quality : GoodIn wsL_law (wsV RL 81 RX2 yX2_quality wsX2_quality) := goodIn_app (goodIn_of _ (by decide +kernel)) ggL_law_X2_quality
set_option maxRecDepth 20000 in
theorem ggL_law_X1_score : GoodIn wsL_law wsX1_score := goodIn_r _ [440, 15, 441, 106, 107, 2, 108, 109, 110, 111, 52, 53, 54, 112, 113, 114, 55, 56, 57, 58, 59, 115, 116, 117, 581, 582, 583, 584, 585, 586, 594, 595, 596, 597, 598, 599, 600, 601, 602, 603, 604, 605, 606, 607, 608, 609] (by decide +kernel) (by decide +kernel)
set_option maxRecDepth 20000 in
theorem gL_law_X1_score : GoodIn wsL_law (wsV RL 82 RX1 yX1_score wsX1_score) := goodIn_app (goodIn_of _ (by decide +kernel)) ggL_law_X1_score
set_option maxRecDepth 20000 in
theorem ggL_law_X2_score : GoodIn wsL_law wsX2_score := goodIn_r _ [445, 42, 434, 435, 5, 436, 122, 123, 124, 86, 87, 88, 89, 90, 91, 125, 126, 127, 128, 129, 130, 92, 93, 94, 95, 44, 587, 588, 589, 590, 591, 592, 593] (by decide +kernel) (by decide +kernel)
set_option maxRecDepth 20000 in
theorem gL_law_X2_score : GoodIn wsL_law (wsV RL 85 RX2 yX2_score wsX2_score) := goodIn_app (goodIn_of _ (by decide +kernel)) ggL_law_X2_score
set_option maxRecDepth 20000 in
theorem ggL_law_X1_effective : GoodIn wsL_law wsX1_effective := goodIn_r _ [449, 15, 106, 107, 2, 108, 109, 110, 111, 52, 53, 54, 112, 113, 114, 55, 56, 57, 58, 59, 450, 272, 273, 14, 274, 31, 74, 32, 21, 179, 180, 68, 181, 116, 117, 581, 582, 583, 584, 585, 586, 594, 595, 596, 597, 598, 599, 600, 601, 602, 603, 604, 605, 606, 607, 608, 609] (by decide +kernel) (by decide +kernel)
set_option maxRecDepth 20000 in
theorem gL_law_X1_effective : GoodIn wsL_law (wsV RL 86 RX1 yX1_effective wsX1_effective) := goodIn_app (goodIn_of _ (by decide +kernel)) ggL_law_X1_effective
set_option maxRecDepth 20000 in
theorem ggL_law_X2_effective : GoodIn wsL_law wsX2_effective := goodIn_r _ [454, 434, 435, 5, 436, 122, 123, 124, 86, 87, 88, 89, 90, 91, 125, 126, 127, 295, 296, 297, 298, 42, 128, 129, 130, 92, 93, 94, 95, 44, 587, 588, 589, 590, 591, 592, 593] (by decide +kernel) (by decide +kernel)
set_option maxRecDepth 20000 in
theorem gL_law_X2_effective : GoodIn wsL_law (wsV RL 89 RX2 yX2_effective wsX2_effective) := goodIn_app (goodIn_of _ (by decide +kernel)) ggL_law_X2_effective
set_option maxRecDepth 20000 in
theorem ggL_law_X1_bestChannel : GoodIn wsL_law wsX1_bestChannel := goodIn_r _ [458, 15, 109, 110, 2, 111, 52, 53, 54, 55, 56, 57, 58, 59, 459, 320, 321, 14, 322, 27, 262, 263, 264, 265, 33, 266, 267, 268, 269, 270, 67, 68, 69, 182, 183, 271, 272, 273, 274, 31, 74, 32, 21, 179, 180, 181, 116, 117, 275, 276, 277, 278, 581, 582, 583, 584, 585, 586, 594, 595, 596, 597, 598, 599, 600, 601, 602, 603, 604, 605, 606, 607, 608, 609] (by decide +kernel) (by decide +kernel)
set_option maxRecDepth 20000 in
theorem gL_law_X1_bestChannel : GoodIn wsL_law (wsV RL 90 RX1 yX1_bestChannel wsX1_bestChannel) := goodIn_app (goodIn_of _ (by decide +kernel)) ggL_law_X1_bestChannel
set_option maxRecDepth 20000 in
theorem ggL_law_X2_bestChannel : GoodIn wsL_law wsX2_bestChannel := goodIn_r _ [463, 45, 122, 123, 5, 124, 86, 87, 88, 89, 90, 91, 92, 93, 94, 95, 44, 291, 292, 293, 294, 42, 46, 225, 226, 227, 295, 296, 297, 298, 128, 129, 130, 587, 588, 589, 590, 591, 592, 593] (by decide +kernel) (by decide +kernel)
set_option maxRecDepth 20000 in
theorem gL_law_X2_bestChannel : GoodIn wsL_law (wsV RL 93 RX2 yX2_bestChannel wsX2_bestChannel) := goodIn_app (goodIn_of _ (by decide +kernel)) ggL_law_X2_bestChannel
set_option maxRecDepth 20000 in
theorem ggL_law_X1_netChannel : GoodIn wsL_law wsX1_netChannel := goodIn_r _ [467, 15, 311, 312, 2, 313, 52, 53, 54, 314, 182, 183, 55, 56, 57, 58, 59, 459, 320, 321, 14, 322, 27, 262, 263, 264, 265, 33, 266, 267, 268, 269, 270, 67, 68, 69, 271, 272, 273, 274, 31, 74, 32, 21, 179, 180, 181, 116, 117, 275, 276, 277, 278, 581, 582, 583, 584, 585, 586, 594, 595, 596, 597, 598, 599, 600, 601, 602, 603, 604, 605, 606, 607, 608, 609] (by decide +kernel) (by decide +kernel)
set_option maxRecDepth 20000 in
theorem gL_law_X1_netChannel : GoodIn wsL_law (wsV RL 94 RX1 yX1_netChannel wsX1_netChannel) := goodIn_app (goodIn_of _ (by decide +kernel)) ggL_law_X1_netChannel
set_option maxRecDepth 20000 in
theorem ggL_law_X2_netChannel : GoodIn wsL_law wsX2_netChannel := goodIn_r _ [471, 331, 332, 5, 333, 86, 87, 88, 89, 90, 91, 225, 226, 227, 334, 335, 336, 337, 42, 338, 339, 340, 341, 295, 296, 297, 298, 128, 129, 130, 92, 93, 94, 95, 44, 587, 588, 589, 590, 591, 592, 593] (by decide +kernel) (by decide +kernel)
set_option maxRecDepth 20000 in
theorem gL_law_X2_netChannel : GoodIn wsL_law (wsV RL 97 RX2 yX2_netChannel wsX2_netChannel) := goodIn_app (goodIn_of _ (by decide +kernel)) ggL_law_X2_netChannel
set_option maxRecDepth 20000 in
theorem ggL_law_X1_link : GoodIn wsL_law wsX1_link := goodIn_r _ [475, 15, 476, 52, 53, 2, 54, 55, 56, 57, 58, 59, 581, 582, 583, 584, 585, 586, 594, 595, 596, 597, 598, 599, 600, 601, 602, 603, 604, 605, 606, 607, 608, 609] (by decide +kernel) (by decide +kernel)
set_option maxRecDepth 20000 in
theorem gL_law_X1_link : GoodIn wsL_law (wsV RL 98 RX1 yX1_link wsX1_link) := goodIn_app (goodIn_of _ (by decide +kernel)) ggL_law_X1_link
set_option maxRecDepth 20000 in
theorem ggL_law_X2_link : GoodIn wsL_law wsX2_link := goodIn_r _ [480, 42, 86, 87, 5, 88, 89, 90, 91, 92, 93, 94, 95, 44, 587, 588, 589, 590, 591, 592, 593] (by decide +kernel) (by decide +kernel)
set_option maxRecDepth 20000 in
theorem gL_law_X2_link : GoodIn wsL_law (wsV RL 101 RX2 yX2_link wsX2_link) := goodIn_app (goodIn_of _ (by decide +kernel)) ggL_law_X2_link
set_option maxRecDepth 20000 in
theorem ggL_law_X1_linkChannel : GoodIn wsL_law wsX1_linkChannel := goodIn_r _ [484, 15, 485, 52, 53, 2, 54, 55, 56, 57, 58, 59, 581, 582, 583, 584, 585, 586, 594, 595, 596, 597, 598, 599, 600, 601, 602, 603, 604, 605, 606, 607, 608, 609] (by decide +kernel) (by decide +kernel)
set_option maxRecDepth 20000 in
theorem gL_law_X1_linkChannel : GoodIn wsL_law (wsV RL 102 RX1 yX1_linkChannel wsX1_linkChannel) := goodIn_app (goodIn_of _ (by decide +kernel)) ggL_law_X1_linkChannel
set_option maxRecDepth 20000 in
theorem ggL_law_X2_linkChannel : GoodIn wsL_law wsX2_linkChannel := goodIn_r _ [489, 42, 86, 87, 5, 88, 89, 90, 91, 92, 93, 94, 95, 44, 587, 588, 589, 590, 591, 592, 593] (by decide +kernel) (by decide +kernel)
set_option maxRecDepth 20000 in
theorem gL_law_X2_linkChannel : GoodIn wsL_law (wsV RL 105 RX2 yX2_linkChannel wsX2_linkChannel) := goodIn_app (goodIn_of _ (by decide +kernel)) ggL_law_X2_linkChannel
set_option maxRecDepth 20000 in
theorem ggL_law_X1_time : GoodIn wsL_law wsX1_time := goodIn_r _ [493, 15, 145, 581, 582, 583, 584, 585, 586, 594, 595, 596, 597, 598, 599, 600, 601, 602, 603, 604, 605, 606, 607, 608, 609] (by decide +kernel) (by decide +kernel)
set_option maxRecDepth 20000 in
theorem gL_law_X1_time : GoodIn wsL_law (wsV RL 106 RX1 yX1_time wsX1_time) := goodIn_app (goodIn_of _ (by decide +kernel)) ggL_law_X1_time
set_option maxRecDepth 20000 in
theorem ggL_law_X2_time : GoodIn wsL_law wsX2_time := goodIn_r _ [497, 42, 587, 588, 589, 590, 591, 592, 593] (by decide +kernel) (by decide +kernel)
set_option maxRecDepth 20000 in
theorem gL_law_X2_time : GoodIn wsL_law (wsV RL 109 RX2 yX2_time wsX2_time) := goodIn_app (goodIn_of _ (by decide +kernel)) ggL_law_X2_time
set_option maxRecDepth 20000 in
theorem ggL_law_X1_transmitted : GoodIn wsL_law wsX1_transmitted := goodIn_r _ [501, 15, 502, 581, 582, 583, 584, 585, 586, 594, 595, 596, 597, 598, 599, 600, 601, 602, 603, 604, 605, 606, 607, 608, 609] (by decide +kernel) (by decide +kernel)
set_option maxRecDepth 20000 in
theorem gL_law_X1_transmitted : GoodIn wsL_law (wsV RL 110 RX1 yX1_transmitted wsX1_transmitted) := goodIn_app (goodIn_of _ (by decide +kernel)) ggL_law_X1_transmitted
set_option maxRecDepth 20000 in
theorem ggL_law_X2_transmitted : GoodIn wsL_law wsX2_transmitted := goodIn_r _ [506, 42, 587, 588, 589, 590, 591, 592, 593] (by decide +kernel) (by decide +kernel)
set_option maxRecDepth 20000 in
theorem gL_law_X2_transmitted : GoodIn wsL_law (wsV RL 113 RX2 yX2_transmitted wsX2_transmitted) := goodIn_app (goodIn_of _ (by decide +kernel)) ggL_law_X2_transmitted
set_option maxRecDepth 20000 in
theorem ggL_law_X1_decoded : GoodIn wsL_law wsX1_decoded := goodIn_r _ [510, 15, 511, 581, 582, 583, 584, 585, 586, 594, 595, 596, 597, 598, 599, 600, 601, 602, 603, 604, 605, 606, 607, 608, 609] (by decide +kernel) (by decide +kernel)
set_option maxRecDepth 20000 in
theorem gL_law_X1_decoded : GoodIn wsL_law (wsV RL 114 RX1 yX1_decoded wsX1_decoded) := goodIn_app (goodIn_of _ (by decide +kernel)) ggL_law_X1_decoded
set_option maxRecDepth 20000 in
theorem ggL_law_X2_decoded : GoodIn wsL_law wsX2_decoded := goodIn_r _ [515, 42, 587, 588, 589, 590, 591, 592, 593] (by decide +kernel) (by decide +kernel)
set_option maxRecDepth 20000 in
theorem gL_law_X2_decoded : GoodIn wsL_law (wsV RL 117 RX2 yX2_decoded wsX2_decoded) := goodIn_app (goodIn_of _ (by decide +kernel)) ggL_law_X2_decoded
set_option maxRecDepth 20000 in
theorem ggL_law_X1_vote : GoodIn wsL_law wsX1_vote := goodIn_r _ [519, 520, 521, 2, 522, 523, 55, 56, 57, 58, 59, 524, 211, 212, 581, 582, 583, 584, 585, 586] (by decide +kernel) (by decide +kernel)
set_option maxRecDepth 20000 in
theorem gL_law_X1_vote : GoodIn wsL_law (wsV RL 118 RX1 yX1_vote wsX1_vote) := goodIn_app (goodIn_of _ (by decide +kernel)) ggL_law_X1_vote
set_option maxRecDepth 20000 in
theorem ggL_law_X2_vote : GoodIn wsL_law wsX2_vote := goodIn_r _ [528, 529, 530, 5, 531, 532, 89, 90, 91, 251, 252, 253, 92, 93, 94, 95, 44, 587, 588, 589, 590, 591, 592, 593] (by decide +kernel) (by decide +kernel)
set_option maxRecDepth 20000 in
theorem gL_law_X2_vote : GoodIn wsL_law (wsV RL 121 RX2 yX2_vote wsX2_vote) := goodIn_app (goodIn_of _ (by decide +kernel)) ggL_law_X2_vote
set_option maxRecDepth 20000 in
theorem ggL_law_X1_undo : GoodIn wsL_law wsX1_undo := goodIn_r _ [536, 65, 64, 15, 16, 166, 167, 168, 2, 169, 170, 70, 71, 72, 14, 73, 74, 21, 22, 75, 76, 77, 23, 24, 25, 27, 78, 79, 80, 81, 28, 29, 30, 31, 32, 581, 582, 583, 584, 585, 586, 594, 595, 596, 597, 598, 599, 600, 601, 602, 603, 604, 605, 606, 607, 608, 609] (by decide +kernel) (by decide +kernel)
set_option maxRecDepth 20000 in
theorem gL_law_X1_undo : GoodIn wsL_law (wsV RL 122 RX1 yX1_undo wsX1_undo) := goodIn_app (goodIn_of _ (by decide +kernel)) ggL_law_X1_undo
set_option maxRecDepth 20000 in
theorem ggL_law_X2_undo : GoodIn wsL_law wsX2_undo := goodIn_r _ [540, 100, 42, 43, 92, 93, 94, 5, 95, 44, 587, 588, 589, 590, 591, 592, 593] (by decide +kernel) (by decide +kernel)
set_option maxRecDepth 20000 in
theorem gL_law_X2_undo : GoodIn wsL_law (wsV RL 125 RX2 yX2_undo wsX2_undo) := goodIn_app (goodIn_of _ (by decide +kernel)) ggL_law_X2_undo
set_option maxRecDepth 20000 in
theorem ggL_law_X1_errorCount : GoodIn wsL_law wsX1_errorCount := goodIn_r _ [544, 59, 170, 55, 56, 57, 2, 58, 581, 582, 583, 584, 585, 586] (by decide +kernel) (by decide +kernel)
set_option maxRecDepth 20000 in
theorem gL_law_X1_errorCount : GoodIn wsL_law (wsV RL 126 RX1 yX1_errorCount wsX1_errorCount) := goodIn_app (goodIn_of _ (by decide +kernel)) ggL_law_X1_errorCount
set_option maxRecDepth 20000 in
theorem ggL_law_X2_errorCount : GoodIn wsL_law wsX2_errorCount := goodIn_r _ [548, 44, 89, 90, 5, 91, 92, 93, 94, 95, 587, 588, 589, 590, 591, 592, 593] (by decide +kernel) (by decide +kernel)
set_option maxRecDepth 20000 in
theorem gL_law_X2_errorCount : GoodIn wsL_law (wsV RL 129 RX2 yX2_errorCount wsX2_errorCount) := goodIn_app (goodIn_of _ (by decide +kernel)) ggL_law_X2_errorCount
set_option maxRecDepth 20000 in
theorem ggL_law_X1_digest : GoodIn wsL_law wsX1_digest := goodIn_r _ [552, 553, 59, 170, 65, 15, 554, 555, 2, 556, 557, 558, 559, 560, 14, 561, 74, 21, 22, 75, 76, 77, 23, 24, 25, 562, 563, 564, 565, 27, 28, 29, 566, 567, 568, 569, 31, 116, 117, 271, 272, 273, 274, 32, 179, 180, 68, 181, 581, 582, 583, 584, 585, 586, 594, 595, 596, 597, 598, 599, 600, 601, 602, 603, 604, 605, 606, 607, 608, 609] (by decide +kernel) (by decide +kernel)
set_option maxRecDepth 20000 in
theorem gL_law_X1_digest : GoodIn wsL_law (wsV RL 130 RX1 yX1_digest wsX1_digest) := goodIn_app (goodIn_of _ (by decide +kernel)) ggL_law_X1_digest
set_option maxRecDepth 20000 in
theorem ggL_law_X2_digest : GoodIn wsL_law wsX2_digest := goodIn_r _ [573, 574, 575, 44, 100, 42, 576, 577, 578, 5, 579, 580, 295, 296, 297, 298, 128, 129, 130, 587, 588, 589, 590, 591, 592, 593] (by decide +kernel) (by decide +kernel)
set_option maxRecDepth 20000 in
theorem gL_law_X2_digest : GoodIn wsL_law (wsV RL 134 RX2 yX2_digest wsX2_digest) := goodIn_app (goodIn_of _ (by decide +kernel)) ggL_law_X2_digest
theorem dL_law_0 : decode cL_law 0 = .ok (.new 7, 3) := by decide +kernel
theorem dL_law_3 : decode cL_law 3 = .ok (.dup, 1) := by decide +kernel
theorem dL_law_4 : decode cL_law 4 = .ok (.invokespecial 9, 3) := by decide +kernel
theorem dL_law_7 : decode cL_law 7 = .ok (.astore_n 1, 1) := by decide +kernel
theorem dL_law_8 : decode cL_law 8 = .ok (.new 10, 3) := by decide +kernel
theorem dL_law_11 : decode cL_law 11 = .ok (.dup, 1) := by decide +kernel
theorem dL_law_12 : decode cL_law 12 = .ok (.invokespecial 12, 3) := by decide +kernel
theorem dL_law_15 : decode cL_law 15 = .ok (.astore_n 2, 1) := by decide +kernel
theorem dL_law_16 : decode cL_law 16 = .ok (.iconst 0, 1) := by decide +kernel
theorem dL_law_17 : decode cL_law 17 = .ok (.istore_n 3, 1) := by decide +kernel
theorem dL_law_18 : decode cL_law 18 = .ok (.iload_n 3, 1) := by decide +kernel
theorem dL_law_19 : decode cL_law 19 = .ok (.aload_n 0, 1) := by decide +kernel
theorem dL_law_20 : decode cL_law 20 = .ok (.arraylength, 1) := by decide +kernel
theorem dL_law_21 : decode cL_law 21 = .ok (.iconst 5, 1) := by decide +kernel
theorem dL_law_22 : decode cL_law 22 = .ok (.isub, 1) := by decide +kernel
theorem dL_law_23 : decode cL_law 23 = .ok (.if_icmp .gt 895, 3) := by decide +kernel
theorem dL_law_26 : decode cL_law 26 = .ok (.aload_n 0, 1) := by decide +kernel
theorem dL_law_27 : decode cL_law 27 = .ok (.iload_n 3, 1) := by decide +kernel
theorem dL_law_28 : decode cL_law 28 = .ok (.iaload, 1) := by decide +kernel
theorem dL_law_29 : decode cL_law 29 = .ok (.bipush 31, 2) := by decide +kernel
theorem dL_law_31 : decode cL_law 31 = .ok (.iand, 1) := by decide +kernel
theorem dL_law_32 : decode cL_law 32 = .ok (.tableswitch 880 0 28 #[132, 165, 218, 241, 264, 287, 320, 353, 386, 409, 422, 435, 448, 461, 484, 507, 550, 593, 636, 669, 702, 725, 748, 761, 774, 787, 830, 843, 866], 132) := by decide +kernel
theorem dL_law_164 : decode cL_law 164 = .ok (.aload_n 1, 1) := by decide +kernel
theorem dL_law_165 : decode cL_law 165 = .ok (.aload_n 0, 1) := by decide +kernel
theorem dL_law_166 : decode cL_law 166 = .ok (.iload_n 3, 1) := by decide +kernel
theorem dL_law_167 : decode cL_law 167 = .ok (.iconst 1, 1) := by decide +kernel
theorem dL_law_168 : decode cL_law 168 = .ok (.iadd, 1) := by decide +kernel
theorem dL_law_169 : decode cL_law 169 = .ok (.iaload, 1) := by decide +kernel
theorem dL_law_170 : decode cL_law 170 = .ok (.aload_n 0, 1) := by decide +kernel
theorem dL_law_171 : decode cL_law 171 = .ok (.iload_n 3, 1) := by decide +kernel
theorem dL_law_172 : decode cL_law 172 = .ok (.iconst 2, 1) := by decide +kernel
theorem dL_law_173 : decode cL_law 173 = .ok (.iadd, 1) := by decide +kernel
theorem dL_law_174 : decode cL_law 174 = .ok (.iaload, 1) := by decide +kernel
theorem dL_law_175 : decode cL_law 175 = .ok (.invokevirtual 13, 3) := by decide +kernel
theorem dL_law_178 : decode cL_law 178 = .ok (.aload_n 2, 1) := by decide +kernel
theorem dL_law_179 : decode cL_law 179 = .ok (.aload_n 0, 1) := by decide +kernel
theorem dL_law_180 : decode cL_law 180 = .ok (.iload_n 3, 1) := by decide +kernel
theorem dL_law_181 : decode cL_law 181 = .ok (.iconst 1, 1) := by decide +kernel
theorem dL_law_182 : decode cL_law 182 = .ok (.iadd, 1) := by decide +kernel
theorem dL_law_183 : decode cL_law 183 = .ok (.iaload, 1) := by decide +kernel
theorem dL_law_184 : decode cL_law 184 = .ok (.aload_n 0, 1) := by decide +kernel
theorem dL_law_185 : decode cL_law 185 = .ok (.iload_n 3, 1) := by decide +kernel
theorem dL_law_186 : decode cL_law 186 = .ok (.iconst 2, 1) := by decide +kernel
theorem dL_law_187 : decode cL_law 187 = .ok (.iadd, 1) := by decide +kernel
theorem dL_law_188 : decode cL_law 188 = .ok (.iaload, 1) := by decide +kernel
theorem dL_law_189 : decode cL_law 189 = .ok (.invokevirtual 17, 3) := by decide +kernel
theorem dL_law_192 : decode cL_law 192 = .ok (.if_icmp .eq 720, 3) := by decide +kernel
theorem dL_law_195 : decode cL_law 195 = .ok (.iconst 0, 1) := by decide +kernel
theorem dL_law_196 : decode cL_law 196 = .ok (.ireturn, 1) := by decide +kernel
theorem dL_law_197 : decode cL_law 197 = .ok (.aload_n 1, 1) := by decide +kernel
theorem dL_law_198 : decode cL_law 198 = .ok (.aload_n 0, 1) := by decide +kernel
theorem dL_law_199 : decode cL_law 199 = .ok (.iload_n 3, 1) := by decide +kernel
theorem dL_law_200 : decode cL_law 200 = .ok (.iconst 1, 1) := by decide +kernel
theorem dL_law_201 : decode cL_law 201 = .ok (.iadd, 1) := by decide +kernel
theorem dL_law_202 : decode cL_law 202 = .ok (.iaload, 1) := by decide +kernel
theorem dL_law_203 : decode cL_law 203 = .ok (.aload_n 0, 1) := by decide +kernel
theorem dL_law_204 : decode cL_law 204 = .ok (.iload_n 3, 1) := by decide +kernel
theorem dL_law_205 : decode cL_law 205 = .ok (.iconst 2, 1) := by decide +kernel
theorem dL_law_206 : decode cL_law 206 = .ok (.iadd, 1) := by decide +kernel
theorem dL_law_207 : decode cL_law 207 = .ok (.iaload, 1) := by decide +kernel
theorem dL_law_208 : decode cL_law 208 = .ok (.aload_n 0, 1) := by decide +kernel
theorem dL_law_209 : decode cL_law 209 = .ok (.iload_n 3, 1) := by decide +kernel
theorem dL_law_210 : decode cL_law 210 = .ok (.iconst 3, 1) := by decide +kernel
theorem dL_law_211 : decode cL_law 211 = .ok (.iadd, 1) := by decide +kernel
theorem dL_law_212 : decode cL_law 212 = .ok (.iaload, 1) := by decide +kernel
theorem dL_law_213 : decode cL_law 213 = .ok (.aload_n 0, 1) := by decide +kernel
theorem dL_law_214 : decode cL_law 214 = .ok (.iload_n 3, 1) := by decide +kernel
theorem dL_law_215 : decode cL_law 215 = .ok (.iconst 4, 1) := by decide +kernel
theorem dL_law_216 : decode cL_law 216 = .ok (.iadd, 1) := by decide +kernel
theorem dL_law_217 : decode cL_law 217 = .ok (.iaload, 1) := by decide +kernel
theorem dL_law_218 : decode cL_law 218 = .ok (.invokevirtual 18, 3) := by decide +kernel
theorem dL_law_221 : decode cL_law 221 = .ok (.aload_n 2, 1) := by decide +kernel
theorem dL_law_222 : decode cL_law 222 = .ok (.aload_n 0, 1) := by decide +kernel
theorem dL_law_223 : decode cL_law 223 = .ok (.iload_n 3, 1) := by decide +kernel
theorem dL_law_224 : decode cL_law 224 = .ok (.iconst 1, 1) := by decide +kernel
theorem dL_law_225 : decode cL_law 225 = .ok (.iadd, 1) := by decide +kernel
theorem dL_law_226 : decode cL_law 226 = .ok (.iaload, 1) := by decide +kernel
theorem dL_law_227 : decode cL_law 227 = .ok (.aload_n 0, 1) := by decide +kernel
theorem dL_law_228 : decode cL_law 228 = .ok (.iload_n 3, 1) := by decide +kernel
theorem dL_law_229 : decode cL_law 229 = .ok (.iconst 2, 1) := by decide +kernel
theorem dL_law_230 : decode cL_law 230 = .ok (.iadd, 1) := by decide +kernel
theorem dL_law_231 : decode cL_law 231 = .ok (.iaload, 1) := by decide +kernel
theorem dL_law_232 : decode cL_law 232 = .ok (.aload_n 0, 1) := by decide +kernel
theorem dL_law_233 : decode cL_law 233 = .ok (.iload_n 3, 1) := by decide +kernel
theorem dL_law_234 : decode cL_law 234 = .ok (.iconst 3, 1) := by decide +kernel
theorem dL_law_235 : decode cL_law 235 = .ok (.iadd, 1) := by decide +kernel
theorem dL_law_236 : decode cL_law 236 = .ok (.iaload, 1) := by decide +kernel
theorem dL_law_237 : decode cL_law 237 = .ok (.aload_n 0, 1) := by decide +kernel
theorem dL_law_238 : decode cL_law 238 = .ok (.iload_n 3, 1) := by decide +kernel
theorem dL_law_239 : decode cL_law 239 = .ok (.iconst 4, 1) := by decide +kernel
theorem dL_law_240 : decode cL_law 240 = .ok (.iadd, 1) := by decide +kernel
theorem dL_law_241 : decode cL_law 241 = .ok (.iaload, 1) := by decide +kernel
theorem dL_law_242 : decode cL_law 242 = .ok (.invokevirtual 22, 3) := by decide +kernel
theorem dL_law_245 : decode cL_law 245 = .ok (.if_icmp .eq 667, 3) := by decide +kernel
theorem dL_law_248 : decode cL_law 248 = .ok (.iconst 0, 1) := by decide +kernel
theorem dL_law_249 : decode cL_law 249 = .ok (.ireturn, 1) := by decide +kernel
theorem dL_law_250 : decode cL_law 250 = .ok (.aload_n 1, 1) := by decide +kernel
theorem dL_law_251 : decode cL_law 251 = .ok (.aload_n 0, 1) := by decide +kernel
theorem dL_law_252 : decode cL_law 252 = .ok (.iload_n 3, 1) := by decide +kernel
theorem dL_law_253 : decode cL_law 253 = .ok (.iconst 1, 1) := by decide +kernel
theorem dL_law_254 : decode cL_law 254 = .ok (.iadd, 1) := by decide +kernel
theorem dL_law_255 : decode cL_law 255 = .ok (.iaload, 1) := by decide +kernel
theorem dL_law_256 : decode cL_law 256 = .ok (.invokevirtual 23, 3) := by decide +kernel
theorem dL_law_259 : decode cL_law 259 = .ok (.aload_n 2, 1) := by decide +kernel
theorem dL_law_260 : decode cL_law 260 = .ok (.aload_n 0, 1) := by decide +kernel
theorem dL_law_261 : decode cL_law 261 = .ok (.iload_n 3, 1) := by decide +kernel
theorem dL_law_262 : decode cL_law 262 = .ok (.iconst 1, 1) := by decide +kernel
theorem dL_law_263 : decode cL_law 263 = .ok (.iadd, 1) := by decide +kernel
theorem dL_law_264 : decode cL_law 264 = .ok (.iaload, 1) := by decide +kernel
theorem dL_law_265 : decode cL_law 265 = .ok (.invokevirtual 27, 3) := by decide +kernel
theorem dL_law_268 : decode cL_law 268 = .ok (.if_icmp .eq 644, 3) := by decide +kernel
theorem dL_law_271 : decode cL_law 271 = .ok (.iconst 0, 1) := by decide +kernel
theorem dL_law_272 : decode cL_law 272 = .ok (.ireturn, 1) := by decide +kernel
theorem dL_law_273 : decode cL_law 273 = .ok (.aload_n 1, 1) := by decide +kernel
theorem dL_law_274 : decode cL_law 274 = .ok (.aload_n 0, 1) := by decide +kernel
theorem dL_law_275 : decode cL_law 275 = .ok (.iload_n 3, 1) := by decide +kernel
theorem dL_law_276 : decode cL_law 276 = .ok (.iconst 1, 1) := by decide +kernel
theorem dL_law_277 : decode cL_law 277 = .ok (.iadd, 1) := by decide +kernel
theorem dL_law_278 : decode cL_law 278 = .ok (.iaload, 1) := by decide +kernel
theorem dL_law_279 : decode cL_law 279 = .ok (.invokevirtual 28, 3) := by decide +kernel
theorem dL_law_282 : decode cL_law 282 = .ok (.aload_n 2, 1) := by decide +kernel
theorem dL_law_283 : decode cL_law 283 = .ok (.aload_n 0, 1) := by decide +kernel
theorem dL_law_284 : decode cL_law 284 = .ok (.iload_n 3, 1) := by decide +kernel
theorem dL_law_285 : decode cL_law 285 = .ok (.iconst 1, 1) := by decide +kernel
theorem dL_law_286 : decode cL_law 286 = .ok (.iadd, 1) := by decide +kernel
theorem dL_law_287 : decode cL_law 287 = .ok (.iaload, 1) := by decide +kernel
theorem dL_law_288 : decode cL_law 288 = .ok (.invokevirtual 31, 3) := by decide +kernel
theorem dL_law_291 : decode cL_law 291 = .ok (.if_icmp .eq 621, 3) := by decide +kernel
theorem dL_law_294 : decode cL_law 294 = .ok (.iconst 0, 1) := by decide +kernel
theorem dL_law_295 : decode cL_law 295 = .ok (.ireturn, 1) := by decide +kernel
theorem dL_law_296 : decode cL_law 296 = .ok (.aload_n 1, 1) := by decide +kernel
theorem dL_law_297 : decode cL_law 297 = .ok (.aload_n 0, 1) := by decide +kernel
theorem dL_law_298 : decode cL_law 298 = .ok (.iload_n 3, 1) := by decide +kernel
theorem dL_law_299 : decode cL_law 299 = .ok (.iconst 1, 1) := by decide +kernel
theorem dL_law_300 : decode cL_law 300 = .ok (.iadd, 1) := by decide +kernel
theorem dL_law_301 : decode cL_law 301 = .ok (.iaload, 1) := by decide +kernel
theorem dL_law_302 : decode cL_law 302 = .ok (.invokevirtual 32, 3) := by decide +kernel
theorem dL_law_305 : decode cL_law 305 = .ok (.aload_n 2, 1) := by decide +kernel
theorem dL_law_306 : decode cL_law 306 = .ok (.aload_n 0, 1) := by decide +kernel
theorem dL_law_307 : decode cL_law 307 = .ok (.iload_n 3, 1) := by decide +kernel
theorem dL_law_308 : decode cL_law 308 = .ok (.iconst 1, 1) := by decide +kernel
theorem dL_law_309 : decode cL_law 309 = .ok (.iadd, 1) := by decide +kernel
theorem dL_law_310 : decode cL_law 310 = .ok (.iaload, 1) := by decide +kernel
theorem dL_law_311 : decode cL_law 311 = .ok (.invokevirtual 35, 3) := by decide +kernel
theorem dL_law_314 : decode cL_law 314 = .ok (.if_icmp .eq 598, 3) := by decide +kernel
theorem dL_law_317 : decode cL_law 317 = .ok (.iconst 0, 1) := by decide +kernel
theorem dL_law_318 : decode cL_law 318 = .ok (.ireturn, 1) := by decide +kernel
theorem dL_law_319 : decode cL_law 319 = .ok (.aload_n 1, 1) := by decide +kernel
theorem dL_law_320 : decode cL_law 320 = .ok (.aload_n 0, 1) := by decide +kernel
theorem dL_law_321 : decode cL_law 321 = .ok (.iload_n 3, 1) := by decide +kernel
theorem dL_law_322 : decode cL_law 322 = .ok (.iconst 1, 1) := by decide +kernel
theorem dL_law_323 : decode cL_law 323 = .ok (.iadd, 1) := by decide +kernel
theorem dL_law_324 : decode cL_law 324 = .ok (.iaload, 1) := by decide +kernel
theorem dL_law_325 : decode cL_law 325 = .ok (.aload_n 0, 1) := by decide +kernel
theorem dL_law_326 : decode cL_law 326 = .ok (.iload_n 3, 1) := by decide +kernel
theorem dL_law_327 : decode cL_law 327 = .ok (.iconst 2, 1) := by decide +kernel
theorem dL_law_328 : decode cL_law 328 = .ok (.iadd, 1) := by decide +kernel
theorem dL_law_329 : decode cL_law 329 = .ok (.iaload, 1) := by decide +kernel
theorem dL_law_330 : decode cL_law 330 = .ok (.invokevirtual 36, 3) := by decide +kernel
theorem dL_law_333 : decode cL_law 333 = .ok (.aload_n 2, 1) := by decide +kernel
theorem dL_law_334 : decode cL_law 334 = .ok (.aload_n 0, 1) := by decide +kernel
theorem dL_law_335 : decode cL_law 335 = .ok (.iload_n 3, 1) := by decide +kernel
theorem dL_law_336 : decode cL_law 336 = .ok (.iconst 1, 1) := by decide +kernel
theorem dL_law_337 : decode cL_law 337 = .ok (.iadd, 1) := by decide +kernel
theorem dL_law_338 : decode cL_law 338 = .ok (.iaload, 1) := by decide +kernel
theorem dL_law_339 : decode cL_law 339 = .ok (.aload_n 0, 1) := by decide +kernel
theorem dL_law_340 : decode cL_law 340 = .ok (.iload_n 3, 1) := by decide +kernel
theorem dL_law_341 : decode cL_law 341 = .ok (.iconst 2, 1) := by decide +kernel
theorem dL_law_342 : decode cL_law 342 = .ok (.iadd, 1) := by decide +kernel
theorem dL_law_343 : decode cL_law 343 = .ok (.iaload, 1) := by decide +kernel
theorem dL_law_344 : decode cL_law 344 = .ok (.invokevirtual 39, 3) := by decide +kernel
theorem dL_law_347 : decode cL_law 347 = .ok (.if_icmp .eq 565, 3) := by decide +kernel
theorem dL_law_350 : decode cL_law 350 = .ok (.iconst 0, 1) := by decide +kernel
theorem dL_law_351 : decode cL_law 351 = .ok (.ireturn, 1) := by decide +kernel
theorem dL_law_352 : decode cL_law 352 = .ok (.aload_n 1, 1) := by decide +kernel
theorem dL_law_353 : decode cL_law 353 = .ok (.aload_n 0, 1) := by decide +kernel
theorem dL_law_354 : decode cL_law 354 = .ok (.iload_n 3, 1) := by decide +kernel
theorem dL_law_355 : decode cL_law 355 = .ok (.iconst 1, 1) := by decide +kernel
theorem dL_law_356 : decode cL_law 356 = .ok (.iadd, 1) := by decide +kernel
theorem dL_law_357 : decode cL_law 357 = .ok (.iaload, 1) := by decide +kernel
theorem dL_law_358 : decode cL_law 358 = .ok (.aload_n 0, 1) := by decide +kernel
theorem dL_law_359 : decode cL_law 359 = .ok (.iload_n 3, 1) := by decide +kernel
theorem dL_law_360 : decode cL_law 360 = .ok (.iconst 2, 1) := by decide +kernel
theorem dL_law_361 : decode cL_law 361 = .ok (.iadd, 1) := by decide +kernel
theorem dL_law_362 : decode cL_law 362 = .ok (.iaload, 1) := by decide +kernel
theorem dL_law_363 : decode cL_law 363 = .ok (.invokevirtual 40, 3) := by decide +kernel
theorem dL_law_366 : decode cL_law 366 = .ok (.aload_n 2, 1) := by decide +kernel
theorem dL_law_367 : decode cL_law 367 = .ok (.aload_n 0, 1) := by decide +kernel
theorem dL_law_368 : decode cL_law 368 = .ok (.iload_n 3, 1) := by decide +kernel
theorem dL_law_369 : decode cL_law 369 = .ok (.iconst 1, 1) := by decide +kernel
theorem dL_law_370 : decode cL_law 370 = .ok (.iadd, 1) := by decide +kernel
theorem dL_law_371 : decode cL_law 371 = .ok (.iaload, 1) := by decide +kernel
theorem dL_law_372 : decode cL_law 372 = .ok (.aload_n 0, 1) := by decide +kernel
theorem dL_law_373 : decode cL_law 373 = .ok (.iload_n 3, 1) := by decide +kernel
theorem dL_law_374 : decode cL_law 374 = .ok (.iconst 2, 1) := by decide +kernel
theorem dL_law_375 : decode cL_law 375 = .ok (.iadd, 1) := by decide +kernel
theorem dL_law_376 : decode cL_law 376 = .ok (.iaload, 1) := by decide +kernel
theorem dL_law_377 : decode cL_law 377 = .ok (.invokevirtual 43, 3) := by decide +kernel
theorem dL_law_380 : decode cL_law 380 = .ok (.if_icmp .eq 532, 3) := by decide +kernel
theorem dL_law_383 : decode cL_law 383 = .ok (.iconst 0, 1) := by decide +kernel
theorem dL_law_384 : decode cL_law 384 = .ok (.ireturn, 1) := by decide +kernel
theorem dL_law_385 : decode cL_law 385 = .ok (.aload_n 1, 1) := by decide +kernel
theorem dL_law_386 : decode cL_law 386 = .ok (.aload_n 0, 1) := by decide +kernel
theorem dL_law_387 : decode cL_law 387 = .ok (.iload_n 3, 1) := by decide +kernel
theorem dL_law_388 : decode cL_law 388 = .ok (.iconst 1, 1) := by decide +kernel
theorem dL_law_389 : decode cL_law 389 = .ok (.iadd, 1) := by decide +kernel
theorem dL_law_390 : decode cL_law 390 = .ok (.iaload, 1) := by decide +kernel
theorem dL_law_391 : decode cL_law 391 = .ok (.aload_n 0, 1) := by decide +kernel
theorem dL_law_392 : decode cL_law 392 = .ok (.iload_n 3, 1) := by decide +kernel
theorem dL_law_393 : decode cL_law 393 = .ok (.iconst 2, 1) := by decide +kernel
theorem dL_law_394 : decode cL_law 394 = .ok (.iadd, 1) := by decide +kernel
theorem dL_law_395 : decode cL_law 395 = .ok (.iaload, 1) := by decide +kernel
theorem dL_law_396 : decode cL_law 396 = .ok (.invokevirtual 44, 3) := by decide +kernel
theorem dL_law_399 : decode cL_law 399 = .ok (.aload_n 2, 1) := by decide +kernel
theorem dL_law_400 : decode cL_law 400 = .ok (.aload_n 0, 1) := by decide +kernel
theorem dL_law_401 : decode cL_law 401 = .ok (.iload_n 3, 1) := by decide +kernel
theorem dL_law_402 : decode cL_law 402 = .ok (.iconst 1, 1) := by decide +kernel
theorem dL_law_403 : decode cL_law 403 = .ok (.iadd, 1) := by decide +kernel
theorem dL_law_404 : decode cL_law 404 = .ok (.iaload, 1) := by decide +kernel
theorem dL_law_405 : decode cL_law 405 = .ok (.aload_n 0, 1) := by decide +kernel
theorem dL_law_406 : decode cL_law 406 = .ok (.iload_n 3, 1) := by decide +kernel
theorem dL_law_407 : decode cL_law 407 = .ok (.iconst 2, 1) := by decide +kernel
theorem dL_law_408 : decode cL_law 408 = .ok (.iadd, 1) := by decide +kernel
theorem dL_law_409 : decode cL_law 409 = .ok (.iaload, 1) := by decide +kernel
theorem dL_law_410 : decode cL_law 410 = .ok (.invokevirtual 47, 3) := by decide +kernel
theorem dL_law_413 : decode cL_law 413 = .ok (.if_icmp .eq 499, 3) := by decide +kernel
theorem dL_law_416 : decode cL_law 416 = .ok (.iconst 0, 1) := by decide +kernel
theorem dL_law_417 : decode cL_law 417 = .ok (.ireturn, 1) := by decide +kernel
theorem dL_law_418 : decode cL_law 418 = .ok (.aload_n 1, 1) := by decide +kernel
theorem dL_law_419 : decode cL_law 419 = .ok (.aload_n 0, 1) := by decide +kernel
theorem dL_law_420 : decode cL_law 420 = .ok (.iload_n 3, 1) := by decide +kernel
theorem dL_law_421 : decode cL_law 421 = .ok (.iconst 1, 1) := by decide +kernel
theorem dL_law_422 : decode cL_law 422 = .ok (.iadd, 1) := by decide +kernel
theorem dL_law_423 : decode cL_law 423 = .ok (.iaload, 1) := by decide +kernel
theorem dL_law_424 : decode cL_law 424 = .ok (.invokevirtual 48, 3) := by decide +kernel
theorem dL_law_427 : decode cL_law 427 = .ok (.aload_n 2, 1) := by decide +kernel
theorem dL_law_428 : decode cL_law 428 = .ok (.aload_n 0, 1) := by decide +kernel
theorem dL_law_429 : decode cL_law 429 = .ok (.iload_n 3, 1) := by decide +kernel
theorem dL_law_430 : decode cL_law 430 = .ok (.iconst 1, 1) := by decide +kernel
theorem dL_law_431 : decode cL_law 431 = .ok (.iadd, 1) := by decide +kernel
theorem dL_law_432 : decode cL_law 432 = .ok (.iaload, 1) := by decide +kernel
theorem dL_law_433 : decode cL_law 433 = .ok (.invokevirtual 51, 3) := by decide +kernel
theorem dL_law_436 : decode cL_law 436 = .ok (.if_icmp .eq 476, 3) := by decide +kernel
theorem dL_law_439 : decode cL_law 439 = .ok (.iconst 0, 1) := by decide +kernel
theorem dL_law_440 : decode cL_law 440 = .ok (.ireturn, 1) := by decide +kernel
theorem dL_law_441 : decode cL_law 441 = .ok (.aload_n 1, 1) := by decide +kernel
theorem dL_law_442 : decode cL_law 442 = .ok (.invokevirtual 52, 3) := by decide +kernel
theorem dL_law_445 : decode cL_law 445 = .ok (.aload_n 2, 1) := by decide +kernel
theorem dL_law_446 : decode cL_law 446 = .ok (.invokevirtual 56, 3) := by decide +kernel
theorem dL_law_449 : decode cL_law 449 = .ok (.if_icmp .eq 463, 3) := by decide +kernel
theorem dL_law_452 : decode cL_law 452 = .ok (.iconst 0, 1) := by decide +kernel
theorem dL_law_453 : decode cL_law 453 = .ok (.ireturn, 1) := by decide +kernel
theorem dL_law_454 : decode cL_law 454 = .ok (.aload_n 1, 1) := by decide +kernel
theorem dL_law_455 : decode cL_law 455 = .ok (.invokevirtual 57, 3) := by decide +kernel
theorem dL_law_458 : decode cL_law 458 = .ok (.aload_n 2, 1) := by decide +kernel
theorem dL_law_459 : decode cL_law 459 = .ok (.invokevirtual 60, 3) := by decide +kernel
theorem dL_law_462 : decode cL_law 462 = .ok (.if_icmp .eq 450, 3) := by decide +kernel
theorem dL_law_465 : decode cL_law 465 = .ok (.iconst 0, 1) := by decide +kernel
theorem dL_law_466 : decode cL_law 466 = .ok (.ireturn, 1) := by decide +kernel
theorem dL_law_467 : decode cL_law 467 = .ok (.aload_n 1, 1) := by decide +kernel
theorem dL_law_468 : decode cL_law 468 = .ok (.invokevirtual 61, 3) := by decide +kernel
theorem dL_law_471 : decode cL_law 471 = .ok (.aload_n 2, 1) := by decide +kernel
theorem dL_law_472 : decode cL_law 472 = .ok (.invokevirtual 64, 3) := by decide +kernel
theorem dL_law_475 : decode cL_law 475 = .ok (.if_icmp .eq 437, 3) := by decide +kernel
theorem dL_law_478 : decode cL_law 478 = .ok (.iconst 0, 1) := by decide +kernel
theorem dL_law_479 : decode cL_law 479 = .ok (.ireturn, 1) := by decide +kernel
theorem dL_law_480 : decode cL_law 480 = .ok (.aload_n 1, 1) := by decide +kernel
theorem dL_law_481 : decode cL_law 481 = .ok (.invokevirtual 65, 3) := by decide +kernel
theorem dL_law_484 : decode cL_law 484 = .ok (.aload_n 2, 1) := by decide +kernel
theorem dL_law_485 : decode cL_law 485 = .ok (.invokevirtual 68, 3) := by decide +kernel
theorem dL_law_488 : decode cL_law 488 = .ok (.if_icmp .eq 424, 3) := by decide +kernel
theorem dL_law_491 : decode cL_law 491 = .ok (.iconst 0, 1) := by decide +kernel
theorem dL_law_492 : decode cL_law 492 = .ok (.ireturn, 1) := by decide +kernel
theorem dL_law_493 : decode cL_law 493 = .ok (.aload_n 1, 1) := by decide +kernel
theorem dL_law_494 : decode cL_law 494 = .ok (.aload_n 0, 1) := by decide +kernel
theorem dL_law_495 : decode cL_law 495 = .ok (.iload_n 3, 1) := by decide +kernel
theorem dL_law_496 : decode cL_law 496 = .ok (.iconst 1, 1) := by decide +kernel
theorem dL_law_497 : decode cL_law 497 = .ok (.iadd, 1) := by decide +kernel
theorem dL_law_498 : decode cL_law 498 = .ok (.iaload, 1) := by decide +kernel
theorem dL_law_499 : decode cL_law 499 = .ok (.invokevirtual 69, 3) := by decide +kernel
theorem dL_law_502 : decode cL_law 502 = .ok (.aload_n 2, 1) := by decide +kernel
theorem dL_law_503 : decode cL_law 503 = .ok (.aload_n 0, 1) := by decide +kernel
theorem dL_law_504 : decode cL_law 504 = .ok (.iload_n 3, 1) := by decide +kernel
theorem dL_law_505 : decode cL_law 505 = .ok (.iconst 1, 1) := by decide +kernel
theorem dL_law_506 : decode cL_law 506 = .ok (.iadd, 1) := by decide +kernel
theorem dL_law_507 : decode cL_law 507 = .ok (.iaload, 1) := by decide +kernel
theorem dL_law_508 : decode cL_law 508 = .ok (.invokevirtual 72, 3) := by decide +kernel
theorem dL_law_511 : decode cL_law 511 = .ok (.if_icmp .eq 401, 3) := by decide +kernel
theorem dL_law_514 : decode cL_law 514 = .ok (.iconst 0, 1) := by decide +kernel
theorem dL_law_515 : decode cL_law 515 = .ok (.ireturn, 1) := by decide +kernel
theorem dL_law_516 : decode cL_law 516 = .ok (.aload_n 1, 1) := by decide +kernel
theorem dL_law_517 : decode cL_law 517 = .ok (.aload_n 0, 1) := by decide +kernel
theorem dL_law_518 : decode cL_law 518 = .ok (.iload_n 3, 1) := by decide +kernel
theorem dL_law_519 : decode cL_law 519 = .ok (.iconst 1, 1) := by decide +kernel
theorem dL_law_520 : decode cL_law 520 = .ok (.iadd, 1) := by decide +kernel
theorem dL_law_521 : decode cL_law 521 = .ok (.iaload, 1) := by decide +kernel
theorem dL_law_522 : decode cL_law 522 = .ok (.invokevirtual 73, 3) := by decide +kernel
theorem dL_law_525 : decode cL_law 525 = .ok (.aload_n 2, 1) := by decide +kernel
theorem dL_law_526 : decode cL_law 526 = .ok (.aload_n 0, 1) := by decide +kernel
theorem dL_law_527 : decode cL_law 527 = .ok (.iload_n 3, 1) := by decide +kernel
theorem dL_law_528 : decode cL_law 528 = .ok (.iconst 1, 1) := by decide +kernel
theorem dL_law_529 : decode cL_law 529 = .ok (.iadd, 1) := by decide +kernel
theorem dL_law_530 : decode cL_law 530 = .ok (.iaload, 1) := by decide +kernel
theorem dL_law_531 : decode cL_law 531 = .ok (.invokevirtual 76, 3) := by decide +kernel
theorem dL_law_534 : decode cL_law 534 = .ok (.if_icmp .eq 378, 3) := by decide +kernel
theorem dL_law_537 : decode cL_law 537 = .ok (.iconst 0, 1) := by decide +kernel
theorem dL_law_538 : decode cL_law 538 = .ok (.ireturn, 1) := by decide +kernel
theorem dL_law_539 : decode cL_law 539 = .ok (.aload_n 1, 1) := by decide +kernel
theorem dL_law_540 : decode cL_law 540 = .ok (.aload_n 0, 1) := by decide +kernel
theorem dL_law_541 : decode cL_law 541 = .ok (.iload_n 3, 1) := by decide +kernel
theorem dL_law_542 : decode cL_law 542 = .ok (.iconst 1, 1) := by decide +kernel
theorem dL_law_543 : decode cL_law 543 = .ok (.iadd, 1) := by decide +kernel
theorem dL_law_544 : decode cL_law 544 = .ok (.iaload, 1) := by decide +kernel
theorem dL_law_545 : decode cL_law 545 = .ok (.aload_n 0, 1) := by decide +kernel
theorem dL_law_546 : decode cL_law 546 = .ok (.iload_n 3, 1) := by decide +kernel
theorem dL_law_547 : decode cL_law 547 = .ok (.iconst 2, 1) := by decide +kernel
theorem dL_law_548 : decode cL_law 548 = .ok (.iadd, 1) := by decide +kernel
theorem dL_law_549 : decode cL_law 549 = .ok (.iaload, 1) := by decide +kernel
theorem dL_law_550 : decode cL_law 550 = .ok (.aload_n 0, 1) := by decide +kernel
theorem dL_law_551 : decode cL_law 551 = .ok (.iload_n 3, 1) := by decide +kernel
theorem dL_law_552 : decode cL_law 552 = .ok (.iconst 3, 1) := by decide +kernel
theorem dL_law_553 : decode cL_law 553 = .ok (.iadd, 1) := by decide +kernel
theorem dL_law_554 : decode cL_law 554 = .ok (.iaload, 1) := by decide +kernel
theorem dL_law_555 : decode cL_law 555 = .ok (.invokevirtual 77, 3) := by decide +kernel
theorem dL_law_558 : decode cL_law 558 = .ok (.aload_n 2, 1) := by decide +kernel
theorem dL_law_559 : decode cL_law 559 = .ok (.aload_n 0, 1) := by decide +kernel
theorem dL_law_560 : decode cL_law 560 = .ok (.iload_n 3, 1) := by decide +kernel
theorem dL_law_561 : decode cL_law 561 = .ok (.iconst 1, 1) := by decide +kernel
theorem dL_law_562 : decode cL_law 562 = .ok (.iadd, 1) := by decide +kernel
theorem dL_law_563 : decode cL_law 563 = .ok (.iaload, 1) := by decide +kernel
theorem dL_law_564 : decode cL_law 564 = .ok (.aload_n 0, 1) := by decide +kernel
theorem dL_law_565 : decode cL_law 565 = .ok (.iload_n 3, 1) := by decide +kernel
theorem dL_law_566 : decode cL_law 566 = .ok (.iconst 2, 1) := by decide +kernel
theorem dL_law_567 : decode cL_law 567 = .ok (.iadd, 1) := by decide +kernel
theorem dL_law_568 : decode cL_law 568 = .ok (.iaload, 1) := by decide +kernel
theorem dL_law_569 : decode cL_law 569 = .ok (.aload_n 0, 1) := by decide +kernel
theorem dL_law_570 : decode cL_law 570 = .ok (.iload_n 3, 1) := by decide +kernel
theorem dL_law_571 : decode cL_law 571 = .ok (.iconst 3, 1) := by decide +kernel
theorem dL_law_572 : decode cL_law 572 = .ok (.iadd, 1) := by decide +kernel
theorem dL_law_573 : decode cL_law 573 = .ok (.iaload, 1) := by decide +kernel
theorem dL_law_574 : decode cL_law 574 = .ok (.invokevirtual 81, 3) := by decide +kernel
theorem dL_law_577 : decode cL_law 577 = .ok (.if_icmp .eq 335, 3) := by decide +kernel
theorem dL_law_580 : decode cL_law 580 = .ok (.iconst 0, 1) := by decide +kernel
theorem dL_law_581 : decode cL_law 581 = .ok (.ireturn, 1) := by decide +kernel
theorem dL_law_582 : decode cL_law 582 = .ok (.aload_n 1, 1) := by decide +kernel
theorem dL_law_583 : decode cL_law 583 = .ok (.aload_n 0, 1) := by decide +kernel
theorem dL_law_584 : decode cL_law 584 = .ok (.iload_n 3, 1) := by decide +kernel
theorem dL_law_585 : decode cL_law 585 = .ok (.iconst 1, 1) := by decide +kernel
theorem dL_law_586 : decode cL_law 586 = .ok (.iadd, 1) := by decide +kernel
theorem dL_law_587 : decode cL_law 587 = .ok (.iaload, 1) := by decide +kernel
theorem dL_law_588 : decode cL_law 588 = .ok (.aload_n 0, 1) := by decide +kernel
theorem dL_law_589 : decode cL_law 589 = .ok (.iload_n 3, 1) := by decide +kernel
theorem dL_law_590 : decode cL_law 590 = .ok (.iconst 2, 1) := by decide +kernel
theorem dL_law_591 : decode cL_law 591 = .ok (.iadd, 1) := by decide +kernel
theorem dL_law_592 : decode cL_law 592 = .ok (.iaload, 1) := by decide +kernel
theorem dL_law_593 : decode cL_law 593 = .ok (.aload_n 0, 1) := by decide +kernel
theorem dL_law_594 : decode cL_law 594 = .ok (.iload_n 3, 1) := by decide +kernel
theorem dL_law_595 : decode cL_law 595 = .ok (.iconst 3, 1) := by decide +kernel
theorem dL_law_596 : decode cL_law 596 = .ok (.iadd, 1) := by decide +kernel
theorem dL_law_597 : decode cL_law 597 = .ok (.iaload, 1) := by decide +kernel
theorem dL_law_598 : decode cL_law 598 = .ok (.invokevirtual 82, 3) := by decide +kernel
theorem dL_law_601 : decode cL_law 601 = .ok (.aload_n 2, 1) := by decide +kernel
theorem dL_law_602 : decode cL_law 602 = .ok (.aload_n 0, 1) := by decide +kernel
theorem dL_law_603 : decode cL_law 603 = .ok (.iload_n 3, 1) := by decide +kernel
theorem dL_law_604 : decode cL_law 604 = .ok (.iconst 1, 1) := by decide +kernel
theorem dL_law_605 : decode cL_law 605 = .ok (.iadd, 1) := by decide +kernel
theorem dL_law_606 : decode cL_law 606 = .ok (.iaload, 1) := by decide +kernel
theorem dL_law_607 : decode cL_law 607 = .ok (.aload_n 0, 1) := by decide +kernel
theorem dL_law_608 : decode cL_law 608 = .ok (.iload_n 3, 1) := by decide +kernel
theorem dL_law_609 : decode cL_law 609 = .ok (.iconst 2, 1) := by decide +kernel
theorem dL_law_610 : decode cL_law 610 = .ok (.iadd, 1) := by decide +kernel
theorem dL_law_611 : decode cL_law 611 = .ok (.iaload, 1) := by decide +kernel
theorem dL_law_612 : decode cL_law 612 = .ok (.aload_n 0, 1) := by decide +kernel
theorem dL_law_613 : decode cL_law 613 = .ok (.iload_n 3, 1) := by decide +kernel
theorem dL_law_614 : decode cL_law 614 = .ok (.iconst 3, 1) := by decide +kernel
theorem dL_law_615 : decode cL_law 615 = .ok (.iadd, 1) := by decide +kernel
theorem dL_law_616 : decode cL_law 616 = .ok (.iaload, 1) := by decide +kernel
theorem dL_law_617 : decode cL_law 617 = .ok (.invokevirtual 85, 3) := by decide +kernel
theorem dL_law_620 : decode cL_law 620 = .ok (.if_icmp .eq 292, 3) := by decide +kernel
theorem dL_law_623 : decode cL_law 623 = .ok (.iconst 0, 1) := by decide +kernel
theorem dL_law_624 : decode cL_law 624 = .ok (.ireturn, 1) := by decide +kernel
theorem dL_law_625 : decode cL_law 625 = .ok (.aload_n 1, 1) := by decide +kernel
theorem dL_law_626 : decode cL_law 626 = .ok (.aload_n 0, 1) := by decide +kernel
theorem dL_law_627 : decode cL_law 627 = .ok (.iload_n 3, 1) := by decide +kernel
theorem dL_law_628 : decode cL_law 628 = .ok (.iconst 1, 1) := by decide +kernel
theorem dL_law_629 : decode cL_law 629 = .ok (.iadd, 1) := by decide +kernel
theorem dL_law_630 : decode cL_law 630 = .ok (.iaload, 1) := by decide +kernel
theorem dL_law_631 : decode cL_law 631 = .ok (.aload_n 0, 1) := by decide +kernel
theorem dL_law_632 : decode cL_law 632 = .ok (.iload_n 3, 1) := by decide +kernel
theorem dL_law_633 : decode cL_law 633 = .ok (.iconst 2, 1) := by decide +kernel
theorem dL_law_634 : decode cL_law 634 = .ok (.iadd, 1) := by decide +kernel
theorem dL_law_635 : decode cL_law 635 = .ok (.iaload, 1) := by decide +kernel
theorem dL_law_636 : decode cL_law 636 = .ok (.aload_n 0, 1) := by decide +kernel
theorem dL_law_637 : decode cL_law 637 = .ok (.iload_n 3, 1) := by decide +kernel
theorem dL_law_638 : decode cL_law 638 = .ok (.iconst 3, 1) := by decide +kernel
theorem dL_law_639 : decode cL_law 639 = .ok (.iadd, 1) := by decide +kernel
theorem dL_law_640 : decode cL_law 640 = .ok (.iaload, 1) := by decide +kernel
theorem dL_law_641 : decode cL_law 641 = .ok (.invokevirtual 86, 3) := by decide +kernel
theorem dL_law_644 : decode cL_law 644 = .ok (.aload_n 2, 1) := by decide +kernel
theorem dL_law_645 : decode cL_law 645 = .ok (.aload_n 0, 1) := by decide +kernel
theorem dL_law_646 : decode cL_law 646 = .ok (.iload_n 3, 1) := by decide +kernel
theorem dL_law_647 : decode cL_law 647 = .ok (.iconst 1, 1) := by decide +kernel
theorem dL_law_648 : decode cL_law 648 = .ok (.iadd, 1) := by decide +kernel
theorem dL_law_649 : decode cL_law 649 = .ok (.iaload, 1) := by decide +kernel
theorem dL_law_650 : decode cL_law 650 = .ok (.aload_n 0, 1) := by decide +kernel
theorem dL_law_651 : decode cL_law 651 = .ok (.iload_n 3, 1) := by decide +kernel
theorem dL_law_652 : decode cL_law 652 = .ok (.iconst 2, 1) := by decide +kernel
theorem dL_law_653 : decode cL_law 653 = .ok (.iadd, 1) := by decide +kernel
theorem dL_law_654 : decode cL_law 654 = .ok (.iaload, 1) := by decide +kernel
theorem dL_law_655 : decode cL_law 655 = .ok (.aload_n 0, 1) := by decide +kernel
theorem dL_law_656 : decode cL_law 656 = .ok (.iload_n 3, 1) := by decide +kernel
theorem dL_law_657 : decode cL_law 657 = .ok (.iconst 3, 1) := by decide +kernel
theorem dL_law_658 : decode cL_law 658 = .ok (.iadd, 1) := by decide +kernel
theorem dL_law_659 : decode cL_law 659 = .ok (.iaload, 1) := by decide +kernel
theorem dL_law_660 : decode cL_law 660 = .ok (.invokevirtual 89, 3) := by decide +kernel
theorem dL_law_663 : decode cL_law 663 = .ok (.if_icmp .eq 249, 3) := by decide +kernel
theorem dL_law_666 : decode cL_law 666 = .ok (.iconst 0, 1) := by decide +kernel
theorem dL_law_667 : decode cL_law 667 = .ok (.ireturn, 1) := by decide +kernel
theorem dL_law_668 : decode cL_law 668 = .ok (.aload_n 1, 1) := by decide +kernel
theorem dL_law_669 : decode cL_law 669 = .ok (.aload_n 0, 1) := by decide +kernel
theorem dL_law_670 : decode cL_law 670 = .ok (.iload_n 3, 1) := by decide +kernel
theorem dL_law_671 : decode cL_law 671 = .ok (.iconst 1, 1) := by decide +kernel
theorem dL_law_672 : decode cL_law 672 = .ok (.iadd, 1) := by decide +kernel
theorem dL_law_673 : decode cL_law 673 = .ok (.iaload, 1) := by decide +kernel
theorem dL_law_674 : decode cL_law 674 = .ok (.aload_n 0, 1) := by decide +kernel
theorem dL_law_675 : decode cL_law 675 = .ok (.iload_n 3, 1) := by decide +kernel
theorem dL_law_676 : decode cL_law 676 = .ok (.iconst 2, 1) := by decide +kernel
theorem dL_law_677 : decode cL_law 677 = .ok (.iadd, 1) := by decide +kernel
theorem dL_law_678 : decode cL_law 678 = .ok (.iaload, 1) := by decide +kernel
theorem dL_law_679 : decode cL_law 679 = .ok (.invokevirtual 90, 3) := by decide +kernel
theorem dL_law_682 : decode cL_law 682 = .ok (.aload_n 2, 1) := by decide +kernel
theorem dL_law_683 : decode cL_law 683 = .ok (.aload_n 0, 1) := by decide +kernel
theorem dL_law_684 : decode cL_law 684 = .ok (.iload_n 3, 1) := by decide +kernel
theorem dL_law_685 : decode cL_law 685 = .ok (.iconst 1, 1) := by decide +kernel
theorem dL_law_686 : decode cL_law 686 = .ok (.iadd, 1) := by decide +kernel
theorem dL_law_687 : decode cL_law 687 = .ok (.iaload, 1) := by decide +kernel
theorem dL_law_688 : decode cL_law 688 = .ok (.aload_n 0, 1) := by decide +kernel
theorem dL_law_689 : decode cL_law 689 = .ok (.iload_n 3, 1) := by decide +kernel
theorem dL_law_690 : decode cL_law 690 = .ok (.iconst 2, 1) := by decide +kernel
theorem dL_law_691 : decode cL_law 691 = .ok (.iadd, 1) := by decide +kernel
theorem dL_law_692 : decode cL_law 692 = .ok (.iaload, 1) := by decide +kernel
theorem dL_law_693 : decode cL_law 693 = .ok (.invokevirtual 93, 3) := by decide +kernel
theorem dL_law_696 : decode cL_law 696 = .ok (.if_icmp .eq 216, 3) := by decide +kernel
theorem dL_law_699 : decode cL_law 699 = .ok (.iconst 0, 1) := by decide +kernel
theorem dL_law_700 : decode cL_law 700 = .ok (.ireturn, 1) := by decide +kernel
theorem dL_law_701 : decode cL_law 701 = .ok (.aload_n 1, 1) := by decide +kernel
theorem dL_law_702 : decode cL_law 702 = .ok (.aload_n 0, 1) := by decide +kernel
theorem dL_law_703 : decode cL_law 703 = .ok (.iload_n 3, 1) := by decide +kernel
theorem dL_law_704 : decode cL_law 704 = .ok (.iconst 1, 1) := by decide +kernel
theorem dL_law_705 : decode cL_law 705 = .ok (.iadd, 1) := by decide +kernel
theorem dL_law_706 : decode cL_law 706 = .ok (.iaload, 1) := by decide +kernel
theorem dL_law_707 : decode cL_law 707 = .ok (.aload_n 0, 1) := by decide +kernel
theorem dL_law_708 : decode cL_law 708 = .ok (.iload_n 3, 1) := by decide +kernel
theorem dL_law_709 : decode cL_law 709 = .ok (.iconst 2, 1) := by decide +kernel
theorem dL_law_710 : decode cL_law 710 = .ok (.iadd, 1) := by decide +kernel
theorem dL_law_711 : decode cL_law 711 = .ok (.iaload, 1) := by decide +kernel
theorem dL_law_712 : decode cL_law 712 = .ok (.invokevirtual 94, 3) := by decide +kernel
theorem dL_law_715 : decode cL_law 715 = .ok (.aload_n 2, 1) := by decide +kernel
theorem dL_law_716 : decode cL_law 716 = .ok (.aload_n 0, 1) := by decide +kernel
theorem dL_law_717 : decode cL_law 717 = .ok (.iload_n 3, 1) := by decide +kernel
theorem dL_law_718 : decode cL_law 718 = .ok (.iconst 1, 1) := by decide +kernel
theorem dL_law_719 : decode cL_law 719 = .ok (.iadd, 1) := by decide +kernel
theorem dL_law_720 : decode cL_law 720 = .ok (.iaload, 1) := by decide +kernel
theorem dL_law_721 : decode cL_law 721 = .ok (.aload_n 0, 1) := by decide +kernel
theorem dL_law_722 : decode cL_law 722 = .ok (.iload_n 3, 1) := by decide +kernel
theorem dL_law_723 : decode cL_law 723 = .ok (.iconst 2, 1) := by decide +kernel
theorem dL_law_724 : decode cL_law 724 = .ok (.iadd, 1) := by decide +kernel
theorem dL_law_725 : decode cL_law 725 = .ok (.iaload, 1) := by decide +kernel
theorem dL_law_726 : decode cL_law 726 = .ok (.invokevirtual 97, 3) := by decide +kernel
theorem dL_law_729 : decode cL_law 729 = .ok (.if_icmp .eq 183, 3) := by decide +kernel
theorem dL_law_732 : decode cL_law 732 = .ok (.iconst 0, 1) := by decide +kernel
theorem dL_law_733 : decode cL_law 733 = .ok (.ireturn, 1) := by decide +kernel
theorem dL_law_734 : decode cL_law 734 = .ok (.aload_n 1, 1) := by decide +kernel
theorem dL_law_735 : decode cL_law 735 = .ok (.aload_n 0, 1) := by decide +kernel
theorem dL_law_736 : decode cL_law 736 = .ok (.iload_n 3, 1) := by decide +kernel
theorem dL_law_737 : decode cL_law 737 = .ok (.iconst 1, 1) := by decide +kernel
theorem dL_law_738 : decode cL_law 738 = .ok (.iadd, 1) := by decide +kernel
theorem dL_law_739 : decode cL_law 739 = .ok (.iaload, 1) := by decide +kernel
theorem dL_law_740 : decode cL_law 740 = .ok (.invokevirtual 98, 3) := by decide +kernel
theorem dL_law_743 : decode cL_law 743 = .ok (.aload_n 2, 1) := by decide +kernel
theorem dL_law_744 : decode cL_law 744 = .ok (.aload_n 0, 1) := by decide +kernel
theorem dL_law_745 : decode cL_law 745 = .ok (.iload_n 3, 1) := by decide +kernel
theorem dL_law_746 : decode cL_law 746 = .ok (.iconst 1, 1) := by decide +kernel
theorem dL_law_747 : decode cL_law 747 = .ok (.iadd, 1) := by decide +kernel
theorem dL_law_748 : decode cL_law 748 = .ok (.iaload, 1) := by decide +kernel
theorem dL_law_749 : decode cL_law 749 = .ok (.invokevirtual 101, 3) := by decide +kernel
theorem dL_law_752 : decode cL_law 752 = .ok (.if_icmp .eq 160, 3) := by decide +kernel
theorem dL_law_755 : decode cL_law 755 = .ok (.iconst 0, 1) := by decide +kernel
theorem dL_law_756 : decode cL_law 756 = .ok (.ireturn, 1) := by decide +kernel
theorem dL_law_757 : decode cL_law 757 = .ok (.aload_n 1, 1) := by decide +kernel
theorem dL_law_758 : decode cL_law 758 = .ok (.aload_n 0, 1) := by decide +kernel
theorem dL_law_759 : decode cL_law 759 = .ok (.iload_n 3, 1) := by decide +kernel
theorem dL_law_760 : decode cL_law 760 = .ok (.iconst 1, 1) := by decide +kernel
theorem dL_law_761 : decode cL_law 761 = .ok (.iadd, 1) := by decide +kernel
theorem dL_law_762 : decode cL_law 762 = .ok (.iaload, 1) := by decide +kernel
theorem dL_law_763 : decode cL_law 763 = .ok (.invokevirtual 102, 3) := by decide +kernel
theorem dL_law_766 : decode cL_law 766 = .ok (.aload_n 2, 1) := by decide +kernel
theorem dL_law_767 : decode cL_law 767 = .ok (.aload_n 0, 1) := by decide +kernel
theorem dL_law_768 : decode cL_law 768 = .ok (.iload_n 3, 1) := by decide +kernel
theorem dL_law_769 : decode cL_law 769 = .ok (.iconst 1, 1) := by decide +kernel
theorem dL_law_770 : decode cL_law 770 = .ok (.iadd, 1) := by decide +kernel
theorem dL_law_771 : decode cL_law 771 = .ok (.iaload, 1) := by decide +kernel
theorem dL_law_772 : decode cL_law 772 = .ok (.invokevirtual 105, 3) := by decide +kernel
theorem dL_law_775 : decode cL_law 775 = .ok (.if_icmp .eq 137, 3) := by decide +kernel
theorem dL_law_778 : decode cL_law 778 = .ok (.iconst 0, 1) := by decide +kernel
theorem dL_law_779 : decode cL_law 779 = .ok (.ireturn, 1) := by decide +kernel
theorem dL_law_780 : decode cL_law 780 = .ok (.aload_n 1, 1) := by decide +kernel
theorem dL_law_781 : decode cL_law 781 = .ok (.invokevirtual 106, 3) := by decide +kernel
theorem dL_law_784 : decode cL_law 784 = .ok (.aload_n 2, 1) := by decide +kernel
theorem dL_law_785 : decode cL_law 785 = .ok (.invokevirtual 109, 3) := by decide +kernel
theorem dL_law_788 : decode cL_law 788 = .ok (.if_icmp .eq 124, 3) := by decide +kernel
theorem dL_law_791 : decode cL_law 791 = .ok (.iconst 0, 1) := by decide +kernel
theorem dL_law_792 : decode cL_law 792 = .ok (.ireturn, 1) := by decide +kernel
theorem dL_law_793 : decode cL_law 793 = .ok (.aload_n 1, 1) := by decide +kernel
theorem dL_law_794 : decode cL_law 794 = .ok (.invokevirtual 110, 3) := by decide +kernel
theorem dL_law_797 : decode cL_law 797 = .ok (.aload_n 2, 1) := by decide +kernel
theorem dL_law_798 : decode cL_law 798 = .ok (.invokevirtual 113, 3) := by decide +kernel
theorem dL_law_801 : decode cL_law 801 = .ok (.if_icmp .eq 111, 3) := by decide +kernel
theorem dL_law_804 : decode cL_law 804 = .ok (.iconst 0, 1) := by decide +kernel
theorem dL_law_805 : decode cL_law 805 = .ok (.ireturn, 1) := by decide +kernel
theorem dL_law_806 : decode cL_law 806 = .ok (.aload_n 1, 1) := by decide +kernel
theorem dL_law_807 : decode cL_law 807 = .ok (.invokevirtual 114, 3) := by decide +kernel
theorem dL_law_810 : decode cL_law 810 = .ok (.aload_n 2, 1) := by decide +kernel
theorem dL_law_811 : decode cL_law 811 = .ok (.invokevirtual 117, 3) := by decide +kernel
theorem dL_law_814 : decode cL_law 814 = .ok (.if_icmp .eq 98, 3) := by decide +kernel
theorem dL_law_817 : decode cL_law 817 = .ok (.iconst 0, 1) := by decide +kernel
theorem dL_law_818 : decode cL_law 818 = .ok (.ireturn, 1) := by decide +kernel
theorem dL_law_819 : decode cL_law 819 = .ok (.aload_n 1, 1) := by decide +kernel
theorem dL_law_820 : decode cL_law 820 = .ok (.aload_n 0, 1) := by decide +kernel
theorem dL_law_821 : decode cL_law 821 = .ok (.iload_n 3, 1) := by decide +kernel
theorem dL_law_822 : decode cL_law 822 = .ok (.iconst 1, 1) := by decide +kernel
theorem dL_law_823 : decode cL_law 823 = .ok (.iadd, 1) := by decide +kernel
theorem dL_law_824 : decode cL_law 824 = .ok (.iaload, 1) := by decide +kernel
theorem dL_law_825 : decode cL_law 825 = .ok (.aload_n 0, 1) := by decide +kernel
theorem dL_law_826 : decode cL_law 826 = .ok (.iload_n 3, 1) := by decide +kernel
theorem dL_law_827 : decode cL_law 827 = .ok (.iconst 2, 1) := by decide +kernel
theorem dL_law_828 : decode cL_law 828 = .ok (.iadd, 1) := by decide +kernel
theorem dL_law_829 : decode cL_law 829 = .ok (.iaload, 1) := by decide +kernel
theorem dL_law_830 : decode cL_law 830 = .ok (.aload_n 0, 1) := by decide +kernel
theorem dL_law_831 : decode cL_law 831 = .ok (.iload_n 3, 1) := by decide +kernel
theorem dL_law_832 : decode cL_law 832 = .ok (.iconst 3, 1) := by decide +kernel
theorem dL_law_833 : decode cL_law 833 = .ok (.iadd, 1) := by decide +kernel
theorem dL_law_834 : decode cL_law 834 = .ok (.iaload, 1) := by decide +kernel
theorem dL_law_835 : decode cL_law 835 = .ok (.invokevirtual 118, 3) := by decide +kernel
theorem dL_law_838 : decode cL_law 838 = .ok (.aload_n 2, 1) := by decide +kernel
theorem dL_law_839 : decode cL_law 839 = .ok (.aload_n 0, 1) := by decide +kernel
theorem dL_law_840 : decode cL_law 840 = .ok (.iload_n 3, 1) := by decide +kernel
theorem dL_law_841 : decode cL_law 841 = .ok (.iconst 1, 1) := by decide +kernel
theorem dL_law_842 : decode cL_law 842 = .ok (.iadd, 1) := by decide +kernel
theorem dL_law_843 : decode cL_law 843 = .ok (.iaload, 1) := by decide +kernel
theorem dL_law_844 : decode cL_law 844 = .ok (.aload_n 0, 1) := by decide +kernel
theorem dL_law_845 : decode cL_law 845 = .ok (.iload_n 3, 1) := by decide +kernel
theorem dL_law_846 : decode cL_law 846 = .ok (.iconst 2, 1) := by decide +kernel
theorem dL_law_847 : decode cL_law 847 = .ok (.iadd, 1) := by decide +kernel
theorem dL_law_848 : decode cL_law 848 = .ok (.iaload, 1) := by decide +kernel
theorem dL_law_849 : decode cL_law 849 = .ok (.aload_n 0, 1) := by decide +kernel
theorem dL_law_850 : decode cL_law 850 = .ok (.iload_n 3, 1) := by decide +kernel
theorem dL_law_851 : decode cL_law 851 = .ok (.iconst 3, 1) := by decide +kernel
theorem dL_law_852 : decode cL_law 852 = .ok (.iadd, 1) := by decide +kernel
theorem dL_law_853 : decode cL_law 853 = .ok (.iaload, 1) := by decide +kernel
theorem dL_law_854 : decode cL_law 854 = .ok (.invokevirtual 121, 3) := by decide +kernel
theorem dL_law_857 : decode cL_law 857 = .ok (.if_icmp .eq 55, 3) := by decide +kernel
theorem dL_law_860 : decode cL_law 860 = .ok (.iconst 0, 1) := by decide +kernel
theorem dL_law_861 : decode cL_law 861 = .ok (.ireturn, 1) := by decide +kernel
theorem dL_law_862 : decode cL_law 862 = .ok (.aload_n 1, 1) := by decide +kernel
theorem dL_law_863 : decode cL_law 863 = .ok (.invokevirtual 122, 3) := by decide +kernel
theorem dL_law_866 : decode cL_law 866 = .ok (.aload_n 2, 1) := by decide +kernel
theorem dL_law_867 : decode cL_law 867 = .ok (.invokevirtual 125, 3) := by decide +kernel
theorem dL_law_870 : decode cL_law 870 = .ok (.if_icmp .eq 42, 3) := by decide +kernel
theorem dL_law_873 : decode cL_law 873 = .ok (.iconst 0, 1) := by decide +kernel
theorem dL_law_874 : decode cL_law 874 = .ok (.ireturn, 1) := by decide +kernel
theorem dL_law_875 : decode cL_law 875 = .ok (.aload_n 1, 1) := by decide +kernel
theorem dL_law_876 : decode cL_law 876 = .ok (.aload_n 0, 1) := by decide +kernel
theorem dL_law_877 : decode cL_law 877 = .ok (.iload_n 3, 1) := by decide +kernel
theorem dL_law_878 : decode cL_law 878 = .ok (.iconst 1, 1) := by decide +kernel
theorem dL_law_879 : decode cL_law 879 = .ok (.iadd, 1) := by decide +kernel
theorem dL_law_880 : decode cL_law 880 = .ok (.iaload, 1) := by decide +kernel
theorem dL_law_881 : decode cL_law 881 = .ok (.invokevirtual 126, 3) := by decide +kernel
theorem dL_law_884 : decode cL_law 884 = .ok (.aload_n 2, 1) := by decide +kernel
theorem dL_law_885 : decode cL_law 885 = .ok (.aload_n 0, 1) := by decide +kernel
theorem dL_law_886 : decode cL_law 886 = .ok (.iload_n 3, 1) := by decide +kernel
theorem dL_law_887 : decode cL_law 887 = .ok (.iconst 1, 1) := by decide +kernel
theorem dL_law_888 : decode cL_law 888 = .ok (.iadd, 1) := by decide +kernel
theorem dL_law_889 : decode cL_law 889 = .ok (.iaload, 1) := by decide +kernel
theorem dL_law_890 : decode cL_law 890 = .ok (.invokevirtual 129, 3) := by decide +kernel
theorem dL_law_893 : decode cL_law 893 = .ok (.if_icmp .eq 19, 3) := by decide +kernel
theorem dL_law_896 : decode cL_law 896 = .ok (.iconst 0, 1) := by decide +kernel
theorem dL_law_897 : decode cL_law 897 = .ok (.ireturn, 1) := by decide +kernel
theorem dL_law_898 : decode cL_law 898 = .ok (.aload_n 1, 1) := by decide +kernel
theorem dL_law_899 : decode cL_law 899 = .ok (.invokevirtual 130, 3) := by decide +kernel
theorem dL_law_902 : decode cL_law 902 = .ok (.aload_n 2, 1) := by decide +kernel
theorem dL_law_903 : decode cL_law 903 = .ok (.invokevirtual 134, 3) := by decide +kernel
theorem dL_law_906 : decode cL_law 906 = .ok (.lcmp, 1) := by decide +kernel
theorem dL_law_907 : decode cL_law 907 = .ok (.ifCond .eq 5, 3) := by decide +kernel
theorem dL_law_910 : decode cL_law 910 = .ok (.iconst 0, 1) := by decide +kernel
theorem dL_law_911 : decode cL_law 911 = .ok (.ireturn, 1) := by decide +kernel
theorem dL_law_912 : decode cL_law 912 = .ok (.iinc 3 5, 3) := by decide +kernel
theorem dL_law_915 : decode cL_law 915 = .ok (.goto (-897), 3) := by decide +kernel
theorem dL_law_918 : decode cL_law 918 = .ok (.iconst 1, 1) := by decide +kernel
theorem dL_law_919 : decode cL_law 919 = .ok (.ireturn, 1) := by decide +kernel
end
section
/-! BASE: one judgement for all methods of this system: no method but the constructors makes a cell, so a contract is: arguments and world in, answer and world out -/
abbrev tysZ (cI cN : ClassId) : List (ClassId × FieldType) := [(cI, .int), (cN, .object RX0)]
def nwZ : List (Nat × MethodName) := [(89, yX1_contains), (103, yX1_cell), (110, yX1_majority), (156, yX1_mix)]
def NZ (U : State) : Prop := ∀ q ∈ nwZ, va_Nw (.methodLinkNest RX0 q.1 q.2 "LinkEstablisher") U
def rmZ (k : Nat) : Room := { frames := k, cells := 0, slots := 0, locals := 36 * k }
def b2i (b : Bool) : Int32 := match b with
  | true => 1
  | false => 0
def Hz (D : va_G) (A : Nat → Prop) (H0 H : Heap) (locs : List Loc) (ws : va_W) : Prop := va_P D vwCl ws H ∧ va_D A ws ∧ va_S A H0 H locs
def QcA (D : va_G) (A : Nat → Prop) (o : Option Value) (ws' : va_W) : Array Value → State → Outcome → State → Prop := fun _ st oc t => (oc = .returned o ∧ va_P D vwCl ws' t.heap ∧ va_D A ws') ∧ va_F A st t
def PcZ (D : va_G) (cI cN : ClassId) (ws : va_W) (As : List Value) (sz : Nat) : Array Value → State → Prop := va_Pc As (fun U => U.heap.size = sz ∧ va_P D vwCl ws U.heap ∧ va_K D vwCl (tysZ cI cN) U ∧ NZ U ∧ va_D (fun _ => True) ws)
def Fn (l : Launch) (D : va_G) (cI cN : ClassId) (y : MethodName) (wy : List Cond) (k : Nat) (ws : va_W) (As : List Value) (o : Option Value) (ws' : va_W) : Prop :=
  ∀ sz : Nat, Met l y wy (rmZ k) (PcZ D cI cN ws As sz) (QcA D (va_A ws sz) o ws') 0 0 (va_A ws sz)
def Bz (p : Program) (m : MethodId) (meth : Method) (c : Code) (cc : ByteArray) (nL : Nat) (s : State) (args : Array Value) (Ts : List Cond) (own : String) (D : va_G) (cI cN : ClassId) : Prop :=
  CallFix p m c cc nL s args Ts own ∧ va_K D vwCl (tysZ cI cN) s ∧ meth.locks = false ∧ NZ s
abbrev Qz (D : va_G) (A : Nat → Prop) (o : Option Value) (ws' : va_W) (below : List Frame) (args : Array Value) (s : State) : State → Prop := MQ below (QcA D A o ws') args s 0 0 A
abbrev Wz (p : Program) (l : Launch) (e : Env) (k : Nat) (s : State) (m : MethodId) (args : Array Value) (below : List Frame) (meth : Method) (c : Code) (D : va_G) (A : Nat → Prop) (o : Option Value) (ws' : va_W) (H : Heap) (locs : List Loc) (g : JFrame) : Prop :=
  W p l e (rmZ k) s m args below meth c H locs 0 0 (Qz D A o ws' below args s) g
theorem NZ.alike {u U : State} (hW : u.WarmedH U.vm) (h : NZ u) : NZ U := fun q hq => va_Nw.warmM hW (h q hq)
theorem NZ.same {u U : State} (e : u.vm = U.vm) (h : NZ u) : NZ U := fun q hq => va_Nw.same rfl e (h q hq)
theorem PcZ.blind {D : va_G} {cI cN : ClassId} {ws : va_W} {As : List Value} {sz : Nat} : FrameBlind (PcZ D cI cN ws As sz) := by
  intro a U g mk q
  obtain ⟨q0, q1, qP, qK, qN, qD⟩ := q
  exact ⟨q0, q1, qP, va_K.moved (u := U) (U := U.calling g mk a) (Vm.Alike.refl U.vm) qK, NZ.same (u := U) (U := U.calling g mk a) rfl qN, qD⟩
theorem Fn.of {l : Launch} {D : va_G} {cI cN : ClassId} {y : MethodName} {wy wy' : List Cond} {k : Nat} {ws : va_W} {As : List Value} {o : Option Value} {ws' : va_W} {cc : ByteArray} {nL : Nat} {ret : Option FieldType} {lv : List (Nat × Value)}
    (hy : plainName y.cls = true) (hw : wy = Cond.code y cc nL ret :: wy') (hlen : (lg_sl As).length ≤ nL) (hlv : lv_args 0 As = lv)
    (body : ∀ (p : Program) (e : Env) (s : State) (m : MethodId) (args : Array Value) (below : List Frame) (meth : Method) (c : Code) (A : Nat → Prop), Bz p m meth c cc nL s args wy y.cls D cI cN → meth.sig.returnType = ret → (∀ q, s.heap.size ≤ q → A q) →
      ∀ (H : Heap) (locs : List Loc) (ls : Array Slot), Hz D A s.heap H locs ws → lv_has ls nL lv → Wz p l e k s m args below meth c D A o ws' H locs (F0 m 0 ls [])) : Fn l D cI cN y wy k ws As o ws' := by
  intro sz
  refine Met.ofW (cc := cc) (maxL := nL) (ret := ret) hy hw ?_
  intro p e s m args below meth c s₁ B hml hv
  obtain ⟨rfl, hsz, hP, hK, hN, hD0⟩ := hv
  subst hsz
  subst hlv
  have hts := atoms_spec (ws := wy) B.pre
  have hown : s.vm.findClass y.cls = some m.cls := findClass_of_methodNamed B.named
  have hD := hD0.self (sz := s.heap.size)
  have hl := lv_entry As (n := nL) hlen
  rw [lg_entry_eq]
  exact body p e s m _ below meth c (va_A ws s.heap.size) ⟨⟨B.exec, B.bytes, hml, hown, hts⟩, hK, B.notSynchronized, hN⟩ B.returns (fun q h => Or.inr h) s.heap [] _ ⟨hP, hD, va_S.rf⟩ hl
theorem lv_cast {ls : Array Slot} {n : Nat} {l l' : List (Nat × Value)} (h : lv_has ls n l) (e : l = l') : lv_has ls n l' := e ▸ h
theorem Hz.cast {D : va_G} {A : Nat → Prop} {H0 H : Heap} {locs : List Loc} {w w' : va_W} (h : Hz D A H0 H locs w) (e : w = w') : Hz D A H0 H locs w' := e ▸ h
section BASE
variable {p : Program} {l : Launch} {e : Env} {k : Nat} {s : State} {m : MethodId} {args : Array Value} {below : List Frame} {meth : Method} {c : Code} {H : Heap} {locs : List Loc} {Q : State → Prop}
variable {D : va_G} {A : Nat → Prop} {cI cN : ClassId} {cc : ByteArray} {nL : Nat} {Ts : List Cond} {own : String} {pc : Nat} {ls : Array Slot} {rest : List Value} {ws ws1 ws' : va_W} {H0 : Heap}
-- ends
theorem rz_i {v v' : Int32} (B : Bz p m meth c cc nL s args Ts own D cI cN) (hr : meth.sig.returnType = some .int) (h : Hz D A s.heap H locs ws1) (d : decode cc pc = .ok (.ireturn, 1)) (hv : v = v') (hw : ws1 = ws') : Wz p l e k s m args below meth c D A (some (.int v')) ws' H locs (F0 m pc ls [.int v]) := by
  subst hv; subst hw
  exact W.iret (Qc := QcA D A (some (.int v)) ws1) (free := A) B.1.1 B.1.2.1 hr (fun t ht hW => ⟨⟨rfl, by rw [ht]; exact h.1, h.2.1⟩, h.2.2.F ht⟩) h.2.2.2.2 d (hlocks := B.2.2.1)
theorem narrow_b2i (b : Bool) : narrow .boolean (.int (b2i b)) = .int (b2i b) := by cases b <;> rfl
theorem rz_z {b b' : Bool} (B : Bz p m meth c cc nL s args Ts own D cI cN) (hr : meth.sig.returnType = some .boolean) (h : Hz D A s.heap H locs ws1) (d : decode cc pc = .ok (.ireturn, 1)) (hv : b = b') (hw : ws1 = ws') : Wz p l e k s m args below meth c D A (some (.int (b2i b'))) ws' H locs (F0 m pc ls [.int (b2i b)]) := by
  subst hv; subst hw
  exact W.zret (Qc := QcA D A (some (.int (b2i b))) ws1) (free := A) B.1.1 B.1.2.1 hr (narrow_b2i b) (fun t ht hW => ⟨⟨rfl, by rw [ht]; exact h.1, h.2.1⟩, h.2.2.F ht⟩) h.2.2.2.2 d (hlocks := B.2.2.1)
theorem rz_z1 {b' : Bool} (B : Bz p m meth c cc nL s args Ts own D cI cN) (hr : meth.sig.returnType = some .boolean) (h : Hz D A s.heap H locs ws1) (d : decode cc pc = .ok (.ireturn, 1)) (hv : true = b') (hw : ws1 = ws') : Wz p l e k s m args below meth c D A (some (.int (b2i b'))) ws' H locs (F0 m pc ls [.int 1]) := rz_z (b := true) B hr h d hv hw
theorem rz_z0 {b' : Bool} (B : Bz p m meth c cc nL s args Ts own D cI cN) (hr : meth.sig.returnType = some .boolean) (h : Hz D A s.heap H locs ws1) (d : decode cc pc = .ok (.ireturn, 1)) (hv : false = b') (hw : ws1 = ws') : Wz p l e k s m args below meth c D A (some (.int (b2i b'))) ws' H locs (F0 m pc ls [.int 0]) := rz_z (b := false) B hr h d hv hw
theorem rz_l {v v' : Int64} (B : Bz p m meth c cc nL s args Ts own D cI cN) (hr : meth.sig.returnType = some .long) (h : Hz D A s.heap H locs ws1) (d : decode cc pc = .ok (.lreturn, 1)) (hv : v = v') (hw : ws1 = ws') : Wz p l e k s m args below meth c D A (some (.long v')) ws' H locs (F0 m pc ls [.long v]) := by
  subst hv; subst hw
  exact W.lret (Qc := QcA D A (some (.long v)) ws1) (free := A) B.1.1 B.1.2.1 hr (fun t ht hW => ⟨⟨rfl, by rw [ht]; exact h.1, h.2.1⟩, h.2.2.F ht⟩) h.2.2.2.2 d (hlocks := B.2.2.1)
theorem rz_v (B : Bz p m meth c cc nL s args Ts own D cI cN) (hr : meth.sig.returnType = none) (h : Hz D A s.heap H locs ws1) (d : decode cc pc = .ok (.return_, 1)) (hw : ws1 = ws') : Wz p l e k s m args below meth c D A none ws' H locs (F0 m pc ls []) := by
  subst hw
  exact W.vret (Qc := QcA D A none ws1) (free := A) B.1.1 B.1.2.1 hr (fun t ht hW => ⟨⟨rfl, by rw [ht]; exact h.1, h.2.1⟩, h.2.2.F ht⟩) h.2.2.2.2 d (hlocks := B.2.2.1)
-- numbers that are known to be natural
theorem ln_add {a b : Nat} (hx : p.tables.exec = Jvm.exec) (hb : c.code = cc) (d : decode cc pc = .ok (.iadd, 1)) (kk : W p l e (rmZ k) s m args below meth c H locs 0 0 Q (F0 m (pc + 1) ls (.int (nI (a + b)) :: rest))) : W p l e (rmZ k) s m args below meth c H locs 0 0 Q (F0 m pc ls (.int (nI b) :: .int (nI a) :: rest)) := lv_iadd hx hb d (by rw [nI_add]; exact kk)
theorem ln_mul {a b : Nat} (hx : p.tables.exec = Jvm.exec) (hb : c.code = cc) (d : decode cc pc = .ok (.imul, 1)) (kk : W p l e (rmZ k) s m args below meth c H locs 0 0 Q (F0 m (pc + 1) ls (.int (nI (a * b)) :: rest))) : W p l e (rmZ k) s m args below meth c H locs 0 0 Q (F0 m pc ls (.int (nI b) :: .int (nI a) :: rest)) := lv_imul hx hb d (by rw [pk_mul]; exact kk)
theorem ln_icmp_ge {a b : Nat} (hx : p.tables.exec = Jvm.exec) (hb : c.code = cc) {off : Int} {tgt : Nat} (d : decode cc pc = .ok (.if_icmp .ge off, 3)) (ht : (pc : Int) + off = (tgt : Int)) (h : a < 2 ^ 31 ∧ b < 2 ^ 31)
    (kt : b ≤ a → W p l e (rmZ k) s m args below meth c H locs 0 0 Q (F0 m tgt ls rest)) (kf : a < b → W p l e (rmZ k) s m args below meth c H locs 0 0 Q (F0 m (pc + 3) ls rest)) : W p l e (rmZ k) s m args below meth c H locs 0 0 Q (F0 m pc ls (.int (nI b) :: .int (nI a) :: rest)) :=
  lv_icmp_ge hx hb d ht (fun q => kt ((nI_leI h.2 h.1).mp q)) (fun q => kf (Nat.not_le.mp fun z => q ((nI_leI h.2 h.1).mpr z)))
theorem ln_icmp_gt {a b : Nat} (hx : p.tables.exec = Jvm.exec) (hb : c.code = cc) {off : Int} {tgt : Nat} (d : decode cc pc = .ok (.if_icmp .gt off, 3)) (ht : (pc : Int) + off = (tgt : Int)) (h : a < 2 ^ 31 ∧ b < 2 ^ 31)
    (kt : b < a → W p l e (rmZ k) s m args below meth c H locs 0 0 Q (F0 m tgt ls rest)) (kf : a ≤ b → W p l e (rmZ k) s m args below meth c H locs 0 0 Q (F0 m (pc + 3) ls rest)) : W p l e (rmZ k) s m args below meth c H locs 0 0 Q (F0 m pc ls (.int (nI b) :: .int (nI a) :: rest)) :=
  lv_icmp_gt hx hb d ht (fun q => kt ((nI_ltI h.2 h.1).mp q)) (fun q => kf (Nat.not_lt.mp fun z => q ((nI_ltI h.2 h.1).mpr z)))
theorem ln_icmp_ne {a b : Nat} (hx : p.tables.exec = Jvm.exec) (hb : c.code = cc) {off : Int} {tgt : Nat} (d : decode cc pc = .ok (.if_icmp .ne off, 3)) (ht : (pc : Int) + off = (tgt : Int)) (h : a < 2 ^ 31 ∧ b < 2 ^ 31)
    (kt : ¬ a = b → W p l e (rmZ k) s m args below meth c H locs 0 0 Q (F0 m tgt ls rest)) (kf : a = b → W p l e (rmZ k) s m args below meth c H locs 0 0 Q (F0 m (pc + 3) ls rest)) : W p l e (rmZ k) s m args below meth c H locs 0 0 Q (F0 m pc ls (.int (nI b) :: .int (nI a) :: rest)) :=
  lv_icmp_ne hx hb d ht (fun q => kt (fun z => q (by rw [z]))) (fun q => kf ((nI_eq h.1 h.2).mp q))
theorem ln_icmp_eq {a b : Nat} (hx : p.tables.exec = Jvm.exec) (hb : c.code = cc) {off : Int} {tgt : Nat} (d : decode cc pc = .ok (.if_icmp .eq off, 3)) (ht : (pc : Int) + off = (tgt : Int)) (h : a < 2 ^ 31 ∧ b < 2 ^ 31)
    (kt : a = b → W p l e (rmZ k) s m args below meth c H locs 0 0 Q (F0 m tgt ls rest)) (kf : ¬ a = b → W p l e (rmZ k) s m args below meth c H locs 0 0 Q (F0 m (pc + 3) ls rest)) : W p l e (rmZ k) s m args below meth c H locs 0 0 Q (F0 m pc ls (.int (nI b) :: .int (nI a) :: rest)) :=
  lv_icmp_eq hx hb d ht (fun q => kt ((nI_eq h.1 h.2).mp q)) (fun q => kf (fun z => q (by rw [z])))
theorem ln_icmp_lt {a b : Nat} (hx : p.tables.exec = Jvm.exec) (hb : c.code = cc) {off : Int} {tgt : Nat} (d : decode cc pc = .ok (.if_icmp .lt off, 3)) (ht : (pc : Int) + off = (tgt : Int)) (h : a < 2 ^ 31 ∧ b < 2 ^ 31)
    (kt : a < b → W p l e (rmZ k) s m args below meth c H locs 0 0 Q (F0 m tgt ls rest)) (kf : b ≤ a → W p l e (rmZ k) s m args below meth c H locs 0 0 Q (F0 m (pc + 3) ls rest)) : W p l e (rmZ k) s m args below meth c H locs 0 0 Q (F0 m pc ls (.int (nI b) :: .int (nI a) :: rest)) :=
  lv_icmp_lt hx hb d ht (fun q => kt ((nI_ltI h.1 h.2).mp q)) (fun q => kf (Nat.not_lt.mp fun z => q ((nI_ltI h.1 h.2).mpr z)))
theorem ln_if_eq {a : Nat} (hx : p.tables.exec = Jvm.exec) (hb : c.code = cc) {off : Int} {tgt : Nat} (d : decode cc pc = .ok (.ifCond .eq off, 3)) (ht : (pc : Int) + off = (tgt : Int)) (h : a < 2 ^ 31)
    (kt : a = 0 → W p l e (rmZ k) s m args below meth c H locs 0 0 Q (F0 m tgt ls rest)) (kf : ¬ a = 0 → W p l e (rmZ k) s m args below meth c H locs 0 0 Q (F0 m (pc + 3) ls rest)) : W p l e (rmZ k) s m args below meth c H locs 0 0 Q (F0 m pc ls (.int (nI a) :: rest)) :=
  lv_if_eq hx hb d ht (fun q => kt ((nI_eq h (by decide)).mp (q.trans nI_0.symm))) (fun q => kf (fun z => q (by rw [z]; rfl)))
theorem ln_if_ne {a : Nat} (hx : p.tables.exec = Jvm.exec) (hb : c.code = cc) {off : Int} {tgt : Nat} (d : decode cc pc = .ok (.ifCond .ne off, 3)) (ht : (pc : Int) + off = (tgt : Int)) (h : a < 2 ^ 31)
    (kt : ¬ a = 0 → W p l e (rmZ k) s m args below meth c H locs 0 0 Q (F0 m tgt ls rest)) (kf : a = 0 → W p l e (rmZ k) s m args below meth c H locs 0 0 Q (F0 m (pc + 3) ls rest)) : W p l e (rmZ k) s m args below meth c H locs 0 0 Q (F0 m pc ls (.int (nI a) :: rest)) :=
  lv_if_ne hx hb d ht (fun q => kt (fun z => q (by rw [z]; rfl))) (fun q => kf ((nI_eq h (by decide)).mp (q.trans nI_0.symm)))
-- booleans
theorem b2i_0 {b : Bool} : b2i b = 0 ↔ b = false := by cases b <;> decide
theorem lb_if_eq {b : Bool} (hx : p.tables.exec = Jvm.exec) (hb : c.code = cc) {off : Int} {tgt : Nat} (d : decode cc pc = .ok (.ifCond .eq off, 3)) (ht : (pc : Int) + off = (tgt : Int))
    (kt : b = false → W p l e (rmZ k) s m args below meth c H locs 0 0 Q (F0 m tgt ls rest)) (kf : b = true → W p l e (rmZ k) s m args below meth c H locs 0 0 Q (F0 m (pc + 3) ls rest)) : W p l e (rmZ k) s m args below meth c H locs 0 0 Q (F0 m pc ls (.int (b2i b) :: rest)) :=
  lv_if_eq hx hb d ht (fun q => kt (b2i_0.mp q)) (fun q => kf (by cases b with | false => exact absurd rfl q | true => rfl))
theorem lb_if_ne {b : Bool} (hx : p.tables.exec = Jvm.exec) (hb : c.code = cc) {off : Int} {tgt : Nat} (d : decode cc pc = .ok (.ifCond .ne off, 3)) (ht : (pc : Int) + off = (tgt : Int))
    (kt : b = true → W p l e (rmZ k) s m args below meth c H locs 0 0 Q (F0 m tgt ls rest)) (kf : b = false → W p l e (rmZ k) s m args below meth c H locs 0 0 Q (F0 m (pc + 3) ls rest)) : W p l e (rmZ k) s m args below meth c H locs 0 0 Q (F0 m pc ls (.int (b2i b) :: rest)) :=
  lv_if_ne hx hb d ht (fun q => kt (by cases b with | false => exact absurd rfl q | true => rfl)) (fun q => kf (b2i_0.mp q))
/-- the number on top, written otherwise -/
theorem cvt {x y : Int32} {g0 : List Value} (h : x = y) (kk : W p l e (rmZ k) s m args below meth c H locs 0 0 Q (F0 m pc ls (.int y :: g0))) : W p l e (rmZ k) s m args below meth c H locs 0 0 Q (F0 m pc ls (.int x :: g0)) := h ▸ kk
-- cells
theorem gz {C : String} {T : u_T} {N ci index a : Nat} {fs : List Value} {v : Value} (B : Bz p m meth c cc nL s args Ts own D cI cN) (h : Hz D A H0 H locs ws) (hin : ∀ w ∈ u_ws C T N, w ∈ Ts) (q0 : Nat) (he : ws[q0]? = some (a, .inr (ci, fs))) (hc : vwCl[ci]? = some (C, T, N)) (j : Nat) (hj : j < N)
    (hlink : Cond.fieldLink own index C (T j).2.1 (T j).2.2.1 ∈ Ts) (hC : (T j).1 = C) (hv : fs[j]? = some v) (d : decode cc pc = .ok (.getfield index, 3))
    (kk : W p l e (rmZ k) s m args below meth c H locs 0 0 Q (F0 m (pc + 3) ls (v :: rest))) : W p l e (rmZ k) s m args below meth c H locs 0 0 Q (F0 m pc ls (.ref a :: rest)) :=
  va_get (D := D) (ci := ci) (v := v) (C := C) (T := T) (N := N) B.1.1 B.1.2.1 B.1.2.2.2.2 hin B.1.2.2.2.1 B.2.1 h.1 q0 he hc j hj (B.1.2.2.2.2 _ hlink) (fun _ h9 => by rw [hC] at h9; exact h9) hv d kk
theorem pz {C : String} {T : u_T} {N ci index a : Nat} {fs : List Value} {v : Value} {ty0 : Nat → FieldType} (B : Bz p m meth c cc nL s args Ts own D cI cN) (h : Hz D A H0 H locs ws) (hin : ∀ w ∈ u_ws C T N, w ∈ Ts) (hty : ∀ k, k < N → parseFieldDescriptor (T k).2.2.1 = some (ty0 k)) (hnm : ∀ a, a < N → ∀ b, b < N → a ≠ b → (T a).2.1 ≠ (T b).2.1) (q0 : Nat) (he : ws[q0]? = some (a, .inr (ci, fs))) (hc : vwCl[ci]? = some (C, T, N)) (j : Nat) (hj : j < N)
    (hlink : Cond.fieldLink own index C (T j).2.1 (T j).2.2.1 ∈ Ts) (hC : (T j).1 = C) (hfin : (T j).2.2.2 = false) {ty : FieldType} (hd : parseFieldDescriptor (T j).2.2.1 = some ty) (hn : narrow ty v = v) (hfit : fits ty v = true) (hl : j < fs.length) (hs : ws.set q0 (a, .inr (ci, fs.set j v)) = ws1) (d : decode cc pc = .ok (.putfield index, 3))
    (kk : ∀ (H1 : Heap) (locs1 : List Loc), Hz D A H0 H1 locs1 ws1 → W p l e (rmZ k) s m args below meth c H1 locs1 0 0 Q (F0 m (pc + 3) ls rest)) : W p l e (rmZ k) s m args below meth c H locs 0 0 Q (F0 m pc ls (v :: .ref a :: rest)) := by
  subst hs
  exact va_put (D := D) (ci := ci) (v := v) (C := C) (T := T) (N := N) B.1.1 B.1.2.1 B.1.2.2.2.2 hin ty0 hty hnm B.1.2.2.2.1 B.2.1 h.1 h.2.1 h.2.2 q0 he hc j hj (B.1.2.2.2.2 _ hlink) (fun _ h9 => by rw [hC] at h9; exact h9) hfin hd hn hfit hl d (fun H1 locs1 a1 a2 a3 => kk H1 locs1 ⟨a1, a2, a3⟩)
theorem ildz {n a j : Nat} {f : Nat → Int32} {v : Int32} (B : Bz p m meth c cc nL s args Ts own D cI cN) (h : Hz D A H0 H locs ws) (q0 : Nat) (ha : ws[q0]? = some (a, .inl (cI, n, .inl f))) (hj : j < n) (hn : n < 2 ^ 31) (hv : f j = v) (d : decode cc pc = .ok (.iaload, 1))
    (kk : W p l e (rmZ k) s m args below meth c H locs 0 0 Q (F0 m (pc + 1) ls (.int v :: rest))) : W p l e (rmZ k) s m args below meth c H locs 0 0 Q (F0 m pc ls (.int (nI j) :: .ref a :: rest)) :=
  va_iald B.1.1 B.1.2.1 B.2.1 h.1 q0 0 ha rfl (vp_in_nI hj hn) d (by rw [nI_clamp (by omega), hv]; exact kk)
theorem istz {n a j : Nat} {f : Nat → Int32} {x : Int32} (B : Bz p m meth c cc nL s args Ts own D cI cN) (h : Hz D A H0 H locs ws) (q0 : Nat) (ha : ws[q0]? = some (a, .inl (cI, n, .inl f))) (hj : j < n) (hn : n < 2 ^ 31) (hs : ws.set q0 (a, .inl (cI, n, .inl (upd f j x))) = ws1) (d : decode cc pc = .ok (.iastore, 1))
    (kk : ∀ (H1 : Heap) (locs1 : List Loc), Hz D A H0 H1 locs1 ws1 → W p l e (rmZ k) s m args below meth c H1 locs1 0 0 Q (F0 m (pc + 1) ls rest)) : W p l e (rmZ k) s m args below meth c H locs 0 0 Q (F0 m pc ls (.int x :: .int (nI j) :: .ref a :: rest)) := by
  subst hs
  refine va_iast B.1.1 B.1.2.1 B.2.1 h.1 h.2.1 h.2.2 q0 0 ha rfl (vp_in_nI hj hn) d (fun H1 locs1 a1 a2 a3 => ?_)
  rw [nI_clamp (by omega)] at a1 a2
  exact kk H1 locs1 ⟨a1, a2, a3⟩
theorem ldcz {index : Nat} {v : Int32} (B : Bz p m meth c cc nL s args Ts own D cI cN) (hc : Cond.constant own index v ∈ Ts) (d : decode cc pc = .ok (.ldc index, 2)) (kk : W p l e (rmZ k) s m args below meth c H locs 0 0 Q (F0 m (pc + 2) ls (.int v :: rest))) : W p l e (rmZ k) s m args below meth c H locs 0 0 Q (F0 m pc ls rest) :=
  lv_ldc B.1.1 B.1.2.1 B.1.2.2.2.1 (B.1.2.2.2.2 _ hc) d kk
theorem ldcwz {index : Nat} {v : Int32} (B : Bz p m meth c cc nL s args Ts own D cI cN) (hc : Cond.constant own index v ∈ Ts) (d : decode cc pc = .ok (.ldc_w index, 3)) (kk : W p l e (rmZ k) s m args below meth c H locs 0 0 Q (F0 m (pc + 3) ls (.int v :: rest))) : W p l e (rmZ k) s m args below meth c H locs 0 0 Q (F0 m pc ls rest) :=
  lv_ldcw B.1.1 B.1.2.1 B.1.2.2.2.1 (B.1.2.2.2.2 _ hc) d kk
theorem ldc2z {index : Nat} {v : Int64} (B : Bz p m meth c cc nL s args Ts own D cI cN) (hc : Cond.constantLong own index v ∈ Ts) (d : decode cc pc = .ok (.ldc2_w index, 3)) (kk : W p l e (rmZ k) s m args below meth c H locs 0 0 Q (F0 m (pc + 3) ls (.long v :: rest))) : W p l e (rmZ k) s m args below meth c H locs 0 0 Q (F0 m pc ls rest) :=
  lv_ldc2 B.1.1 B.1.2.1 B.1.2.2.2.1 (B.1.2.2.2.2 _ hc) d kk
-- calls
theorem fm_map {α β : Type} (f : α → Option β) (is : List α) (l : List β) (h : is.map f = l.map some) : is.filterMap f = l := by
  have e : is.filterMap f = (is.map f).filterMap id := by rw [List.filterMap_map]; rfl
  rw [e, h, List.filterMap_map]
  simp
/-- behind a call whose world stood at the places isC: the rest at isR; put back in order by is -/
theorem cz_run {st0 : List Value} {a : Array Value} {o : Option Value} {wc wr w1 : va_W} (run : va_Run p l e (rmZ k) s m args below meth c H locs 0 0 0 0 (F0 m pc ls st0) rest (QcA D (va_A wc H.size) o w1 a) (va_A wc H.size)) (h : Hz D A H0 H locs ws) (hA : ∀ q, H0.size ≤ q → A q)
    (isC isR is : List Nat) (hC : isC.map (fun i => ws[i]?) = wc.map some) (hR : isR.map (fun i => ws[i]?) = wr.map some) (hn : va_nd isR = true) (hdis : ∀ i ∈ isR, i ∉ isC) (hn2 : va_nd is = true) (hs : is.map (fun i => (wr ++ w1)[i]?) = ws1.map some)
    (kk : ∀ (H1 : Heap) (locs1 : List Loc), Hz D A H0 H1 locs1 ws1 → W p l e (rmZ k) s m args below meth c H1 locs1 0 0 Q (F0 m (pc + 3) ls (o.toList ++ rest))) : W p l e (rmZ k) s m args below meth c H locs 0 0 Q (F0 m pc ls st0) := by
  obtain ⟨hP, hD, hS⟩ := h
  have hF := va_free (wc := wc) hD hS hA isC hC
  intro T hT X
  obtain ⟨v, st₀, t, T', L, h0, X', hL, e1, e2, ⟨⟨hv, hP1, hD1⟩, hz, hk⟩, st⟩ := run T hT X
  cases hv
  rw [h0] at hz hk
  rw [← e1] at hP1 hz hk
  obtain ⟨hP2, hD2⟩ := va_join (wr := wr) (w1 := w1) hP hD isC isR hC hR hn hdis hk hF hP1 hD1
  have hP3 : va_P D vwCl ws1 T'.heap := hP2.sub is (fm_map _ _ _ hs)
  have hD3 : va_D A ws1 := hD2.sub is hn2 hs
  obtain ⟨t2, a1, b1⟩ := kk T'.heap (locs ++ L) ⟨hP3, hD3, Nat.le_trans hS.1 hz, fun q h1 h2 => by rw [hk q (Nat.lt_of_lt_of_le h1 hS.1) (fun z => h2 (hF q z))]; exact hS.2.1 q h1 h2, fun q hq => by
      rcases List.mem_append.mp hq with h | h
      · exact hS.2.2 q h
      · exact hF _ (hL q h)⟩ T' rfl X'
  exact ⟨t2, st t2 a1, b1⟩
theorem map_range_get {α : Type} : ∀ (l : List α), (List.range l.length).map (fun i => l[i]?) = l.map some := by
  intro l
  apply List.ext_getElem?
  intro i
  by_cases h : i < l.length
  · simp [h]
  · simp [h]
theorem va_nd_of : ∀ (l : List Nat), l.Nodup → va_nd l = true
  | [], _ => rfl
  | a :: l, h => by
    rw [List.nodup_cons] at h
    simp only [va_nd, Bool.and_eq_true, decide_eq_true_eq]
    exact ⟨h.1, va_nd_of l h.2⟩
theorem va_nd_range (n : Nat) : va_nd (List.range n) = true := va_nd_of _ List.nodup_range
/-- the callee's world is the whole world -/
theorem cz_all {st0 : List Value} {a : Array Value} {o : Option Value} (run : va_Run p l e (rmZ k) s m args below meth c H locs 0 0 0 0 (F0 m pc ls st0) rest (QcA D (va_A ws H.size) o ws1 a) (va_A ws H.size)) (h : Hz D A H0 H locs ws) (hA : ∀ q, H0.size ≤ q → A q)
    (kk : ∀ (H1 : Heap) (locs1 : List Loc), Hz D A H0 H1 locs1 ws1 → W p l e (rmZ k) s m args below meth c H1 locs1 0 0 Q (F0 m (pc + 3) ls (o.toList ++ rest))) : W p l e (rmZ k) s m args below meth c H locs 0 0 Q (F0 m pc ls st0) :=
  cz_run (wr := []) (w1 := ws1) run h hA (List.range ws.length) [] (List.range ws1.length) (map_range_get ws) rfl rfl (fun _ h => by cases h) (va_nd_range _) (map_range_get ws1) kk
/-- the callee has no world -/
theorem cz_none {st0 : List Value} {a : Array Value} {o : Option Value} (run : va_Run p l e (rmZ k) s m args below meth c H locs 0 0 0 0 (F0 m pc ls st0) rest (QcA D (va_A [] H.size) o [] a) (va_A [] H.size)) (h : Hz D A H0 H locs ws) (hA : ∀ q, H0.size ≤ q → A q)
    (kk : ∀ (H1 : Heap) (locs1 : List Loc), Hz D A H0 H1 locs1 ws → W p l e (rmZ k) s m args below meth c H1 locs1 0 0 Q (F0 m (pc + 3) ls (o.toList ++ rest))) : W p l e (rmZ k) s m args below meth c H locs 0 0 Q (F0 m pc ls st0) :=
  cz_run (wr := ws) (w1 := []) (ws1 := ws) run h hA [] (List.range ws.length) (List.range ws.length) rfl (map_range_get ws) (va_nd_range _) (fun _ _ h => by cases h) (va_nd_range _) (by rw [List.append_nil]; exact map_range_get ws) kk
variable {y : MethodName} {wy wy' : List Cond} {kc index n maxL : Nat} {bytes : ByteArray} {ret : Option FieldType} {As st0 : List Value} {o : Option Value} {wc wc' : va_W}
abbrev hdZ (y : MethodName) (n : Nat) : Prop := y.cls ≠ "java/lang/invoke/MethodHandle" ∧ y.cls ≠ "java/lang/invoke/VarHandle" ∧ (parseMethodDescriptor y.desc).map (fun d => d.parameters.length) = some n
abbrev hRZ (kc k maxL : Nat) : Prop := kc + 1 ≤ k ∧ 8 + (maxL + 11) + 36 * kc ≤ 36 * k
theorem run_S (B : Bz p m meth c cc nL s args Ts own D cI cN) (hM : Fn l D cI cN y wy kc wc As o wc') (g : GoodIn Ts (va_wsS own index y wy)) (hw : wy = Cond.code y bytes maxL ret :: wy') (hd : hdZ y n) (hR : hRZ kc k maxL)
    (hP : va_P D vwCl wc H) (hD : va_D A wc) (hn : As.length = n) (hl : ls.size = nL) (hst : st0 = As.reverse ++ rest) (hW : (rest.map fun v => v.category).sum ≤ 8) (d : decode cc pc = .ok (.invokestatic index, 3)) :
    va_Run p l e (rmZ k) s m args below meth c H locs 0 0 0 0 (F0 m pc ls st0) rest (QcA D (va_A wc H.size) o wc' As.toArray) (va_A wc H.size) :=
  va_runS B.1 (hM H.size) (va_cwS n B.1.2.2.2.2 g hw rfl rfl hd hR) ⟨PcZ.blind, fun U hU hW => ⟨rfl, by rw [hU], by rw [hU]; exact hP, va_K.moved hW.alike B.2.1, NZ.alike hW B.2.2.2, hD.weaken (fun _ _ _ _ => trivial)⟩⟩ rfl hn hl hst (lv_room hW) d ⟨Nat.le_refl _, Nat.le_refl _⟩
theorem run_N (B : Bz p m meth c cc nL s args Ts own D cI cN) (hM : Fn l D cI cN y wy kc wc As o wc') (g : GoodIn Ts wy) (hown : own = RX0) (hq : (index, y) ∈ nwZ) (hini : Cond.initialized y.cls ∈ Ts) (hstt : Cond.static y ∈ Ts) (hw : wy = Cond.code y bytes maxL ret :: wy') (hd : hdZ y n) (hR : hRZ kc k maxL)
    (hP : va_P D vwCl wc H) (hD : va_D A wc) (hn : As.length = n) (hl : ls.size = nL) (hst : st0 = As.reverse ++ rest) (hW : (rest.map fun v => v.category).sum ≤ 8) (d : decode cc pc = .ok (.invokestatic index, 3)) :
    va_Run p l e (rmZ k) s m args below meth c H locs 0 0 0 0 (F0 m pc ls st0) rest (QcA D (va_A wc H.size) o wc' As.toArray) (va_A wc H.size) := by
  subst hown
  exact va_runSN B.1 (hM H.size) ⟨va_cnB (host := "LinkEstablisher") n B.1.2.2.2.2 g hw rfl rfl (B.2.2.2 _ hq) (B.1.2.2.2.2 _ hini) hd hR, B.1.2.2.2.2 _ hstt, trivial⟩ ⟨PcZ.blind, fun U hU hW => ⟨rfl, by rw [hU], by rw [hU]; exact hP, va_K.moved hW.alike B.2.1, NZ.alike hW B.2.2.2, hD.weaken (fun _ _ _ _ => trivial)⟩⟩ rfl hn hl hst (lv_room hW) d ⟨Nat.le_refl _, Nat.le_refl _⟩
theorem run_V {C : String} {T : u_T} {N ci b q0 : Nat} {fs : List Value} (B : Bz p m meth c cc nL s args Ts own D cI cN) (hM : Fn l D cI cN y wy kc wc (.ref b :: As) o wc') (g : GoodIn Ts (wsV own index C y wy)) (hw : wy = Cond.code y bytes maxL ret :: wy') (hyc : y.cls = C) (hd : hdZ y n) (hR : hRZ kc k maxL)
    (hc : vwCl[ci]? = some (C, T, N)) (he : wc[q0]? = some (b, .inr (ci, fs))) (hP : va_P D vwCl wc H) (hD : va_D A wc) (hn : As.length = n) (hl : ls.size = nL) (hst : st0 = As.reverse ++ .ref b :: rest) (hW : (rest.map fun v => v.category).sum ≤ 8) (d : decode cc pc = .ok (.invokevirtual index, 3)) :
    va_Run p l e (rmZ k) s m args below meth c H locs 0 0 0 0 (F0 m pc ls st0) rest (QcA D (va_A wc H.size) o wc' (Value.ref b :: As).toArray) (va_A wc H.size) :=
  va_runV (C := C) (b := b) B.1 (hM H.size) (cwV n B.1.2.2.2.2 g hw rfl rfl ⟨hyc, hd⟩ hR) ⟨PcZ.blind, va_recv B.2.1 hP (ci := ci) (q0 := q0) hc he, fun U hU hW => ⟨rfl, by rw [hU], by rw [hU]; exact hP, va_K.moved hW.alike B.2.1, NZ.alike hW B.2.2.2, hD.weaken (fun _ _ _ _ => trivial)⟩⟩ rfl hn hl hst (lv_room hW) d ⟨Nat.le_refl _, Nat.le_refl _⟩
/-- a call of a static method without a world, that answers an int -/
theorem cS {v : Value} (B : Bz p m meth c cc nL s args Ts own D cI cN) (h : Hz D A H0 H locs ws) (hA : ∀ q, H0.size ≤ q → A q) (hM : Fn l D cI cN y wy kc [] As (some v) []) (g : GoodIn Ts (va_wsS own index y wy)) (hw : wy = Cond.code y bytes maxL ret :: wy') (hd : hdZ y n) (hR : hRZ kc k maxL)
    (hn : As.length = n) (hl : ls.size = nL) (hst : st0 = As.reverse ++ rest) (hW : (rest.map fun v => v.category).sum ≤ 8) (d : decode cc pc = .ok (.invokestatic index, 3))
    (kk : ∀ (H1 : Heap) (locs1 : List Loc), Hz D A H0 H1 locs1 ws → W p l e (rmZ k) s m args below meth c H1 locs1 0 0 Q (F0 m (pc + 3) ls (v :: rest))) : W p l e (rmZ k) s m args below meth c H locs 0 0 Q (F0 m pc ls st0) :=
  cz_none (o := some v) (run_S (A := A) B hM g hw hd hR (fun k q h => by simp at h) ⟨fun i j p q h => by simp at h, fun k q h => by simp at h⟩ hn hl hst hW d) h hA kk
theorem cNst {v : Value} (B : Bz p m meth c cc nL s args Ts own D cI cN) (h : Hz D A H0 H locs ws) (hA : ∀ q, H0.size ≤ q → A q) (hM : Fn l D cI cN y wy kc [] As (some v) []) (g : GoodIn Ts wy) (hown : own = RX0) (hq : (index, y) ∈ nwZ) (hini : Cond.initialized y.cls ∈ Ts) (hstt : Cond.static y ∈ Ts) (hw : wy = Cond.code y bytes maxL ret :: wy') (hd : hdZ y n) (hR : hRZ kc k maxL)
    (hn : As.length = n) (hl : ls.size = nL) (hst : st0 = As.reverse ++ rest) (hW : (rest.map fun v => v.category).sum ≤ 8) (d : decode cc pc = .ok (.invokestatic index, 3))
    (kk : ∀ (H1 : Heap) (locs1 : List Loc), Hz D A H0 H1 locs1 ws → W p l e (rmZ k) s m args below meth c H1 locs1 0 0 Q (F0 m (pc + 3) ls (v :: rest))) : W p l e (rmZ k) s m args below meth c H locs 0 0 Q (F0 m pc ls st0) :=
  cz_none (o := some v) (run_N (A := A) B hM g hown hq hini hstt hw hd hR (fun k q h => by simp at h) ⟨fun i j p q h => by simp at h, fun k q h => by simp at h⟩ hn hl hst hW d) h hA kk
/-- a call of a method of the same world -/
theorem cV {C : String} {T : u_T} {N ci b q0 : Nat} {fs : List Value} {v : Value} (B : Bz p m meth c cc nL s args Ts own D cI cN) (h : Hz D A H0 H locs ws) (hA : ∀ q, H0.size ≤ q → A q) (hM : Fn l D cI cN y wy kc ws (.ref b :: As) (some v) ws1) (g : GoodIn Ts (wsV own index C y wy)) (hw : wy = Cond.code y bytes maxL ret :: wy') (hyc : y.cls = C) (hd : hdZ y n) (hR : hRZ kc k maxL)
    (hc : vwCl[ci]? = some (C, T, N)) (he : ws[q0]? = some (b, .inr (ci, fs))) (hn : As.length = n) (hl : ls.size = nL) (hst : st0 = As.reverse ++ .ref b :: rest) (hW : (rest.map fun v => v.category).sum ≤ 8) (d : decode cc pc = .ok (.invokevirtual index, 3))
    (kk : ∀ (H1 : Heap) (locs1 : List Loc), Hz D A H0 H1 locs1 ws1 → W p l e (rmZ k) s m args below meth c H1 locs1 0 0 Q (F0 m (pc + 3) ls (v :: rest))) : W p l e (rmZ k) s m args below meth c H locs 0 0 Q (F0 m pc ls st0) :=
  cz_all (o := some v) (run_V (A := A) B hM g hw hyc hd hR hc he h.1 h.2.1 hn hl hst hW d) h hA kk
theorem cVv {C : String} {T : u_T} {N ci b q0 : Nat} {fs : List Value} (B : Bz p m meth c cc nL s args Ts own D cI cN) (h : Hz D A H0 H locs ws) (hA : ∀ q, H0.size ≤ q → A q) (hM : Fn l D cI cN y wy kc ws (.ref b :: As) none ws1) (g : GoodIn Ts (wsV own index C y wy)) (hw : wy = Cond.code y bytes maxL ret :: wy') (hyc : y.cls = C) (hd : hdZ y n) (hR : hRZ kc k maxL)
    (hc : vwCl[ci]? = some (C, T, N)) (he : ws[q0]? = some (b, .inr (ci, fs))) (hn : As.length = n) (hl : ls.size = nL) (hst : st0 = As.reverse ++ .ref b :: rest) (hW : (rest.map fun v => v.category).sum ≤ 8) (d : decode cc pc = .ok (.invokevirtual index, 3))
    (kk : ∀ (H1 : Heap) (locs1 : List Loc), Hz D A H0 H1 locs1 ws1 → W p l e (rmZ k) s m args below meth c H1 locs1 0 0 Q (F0 m (pc + 3) ls rest)) : W p l e (rmZ k) s m args below meth c H locs 0 0 Q (F0 m pc ls st0) :=
  cz_all (o := none) (run_V (A := A) B hM g hw hyc hd hR hc he h.1 h.2.1 hn hl hst hW d) h hA kk
/-- a call of a method whose world is a part of this one -/
theorem cP {C : String} {T : u_T} {N ci b q0 : Nat} {fs : List Value} {v : Value} {wr : va_W} (B : Bz p m meth c cc nL s args Ts own D cI cN) (h : Hz D A H0 H locs ws) (hA : ∀ q, H0.size ≤ q → A q) (hM : Fn l D cI cN y wy kc wc (.ref b :: As) (some v) wc') (g : GoodIn Ts (wsV own index C y wy)) (hw : wy = Cond.code y bytes maxL ret :: wy') (hyc : y.cls = C) (hd : hdZ y n) (hR : hRZ kc k maxL)
    (hc : vwCl[ci]? = some (C, T, N)) (he : wc[q0]? = some (b, .inr (ci, fs))) (hn : As.length = n) (hl : ls.size = nL) (hst : st0 = As.reverse ++ .ref b :: rest) (hW : (rest.map fun v => v.category).sum ≤ 8) (d : decode cc pc = .ok (.invokevirtual index, 3))
    (isC isR is : List Nat) (hC : isC.map (fun i => ws[i]?) = wc.map some) (hR2 : isR.map (fun i => ws[i]?) = wr.map some) (hnc : va_nd isC = true) (hnr : va_nd isR = true) (hdis : ∀ i ∈ isR, i ∉ isC) (hn2 : va_nd is = true) (hs : is.map (fun i => (wr ++ wc')[i]?) = ws1.map some)
    (kk : ∀ (H1 : Heap) (locs1 : List Loc), Hz D A H0 H1 locs1 ws1 → W p l e (rmZ k) s m args below meth c H1 locs1 0 0 Q (F0 m (pc + 3) ls (v :: rest))) : W p l e (rmZ k) s m args below meth c H locs 0 0 Q (F0 m pc ls st0) :=
  cz_run (o := some v) (run_V (A := A) B hM g hw hyc hd hR hc he (h.1.sub isC (fm_map _ _ _ hC)) (h.2.1.sub isC hnc hC) hn hl hst hW d) h hA isC isR is hC hR2 hnr hdis hn2 hs kk
theorem cPv {C : String} {T : u_T} {N ci b q0 : Nat} {fs : List Value} {wr : va_W} (B : Bz p m meth c cc nL s args Ts own D cI cN) (h : Hz D A H0 H locs ws) (hA : ∀ q, H0.size ≤ q → A q) (hM : Fn l D cI cN y wy kc wc (.ref b :: As) none wc') (g : GoodIn Ts (wsV own index C y wy)) (hw : wy = Cond.code y bytes maxL ret :: wy') (hyc : y.cls = C) (hd : hdZ y n) (hR : hRZ kc k maxL)
    (hc : vwCl[ci]? = some (C, T, N)) (he : wc[q0]? = some (b, .inr (ci, fs))) (hn : As.length = n) (hl : ls.size = nL) (hst : st0 = As.reverse ++ .ref b :: rest) (hW : (rest.map fun v => v.category).sum ≤ 8) (d : decode cc pc = .ok (.invokevirtual index, 3))
    (isC isR is : List Nat) (hC : isC.map (fun i => ws[i]?) = wc.map some) (hR2 : isR.map (fun i => ws[i]?) = wr.map some) (hnc : va_nd isC = true) (hnr : va_nd isR = true) (hdis : ∀ i ∈ isR, i ∉ isC) (hn2 : va_nd is = true) (hs : is.map (fun i => (wr ++ wc')[i]?) = ws1.map some)
    (kk : ∀ (H1 : Heap) (locs1 : List Loc), Hz D A H0 H1 locs1 ws1 → W p l e (rmZ k) s m args below meth c H1 locs1 0 0 Q (F0 m (pc + 3) ls rest)) : W p l e (rmZ k) s m args below meth c H locs 0 0 Q (F0 m pc ls st0) :=
  cz_run (o := none) (run_V (A := A) B hM g hw hyc hd hR hc he (h.1.sub isC (fm_map _ _ _ hC)) (h.2.1.sub isC hnc hC) hn hl hst hW d) h hA isC isR is hC hR2 hnr hdis hn2 hs kk
end BASE
end
section
/-! ===== Int32 by its bits: bt x i ===== -/
def bt (x : Int32) (i : Nat) : Bool := x.toBitVec.getLsbD i
theorem b_ext {x y : Int32} (h : ∀ i, i < 32 → bt x i = bt y i) : x = y := Int32.toBitVec_inj.mp (BitVec.eq_of_getLsbD_eq (fun i hi => h i hi))
theorem b_or (x y : Int32) (i : Nat) : bt (x ||| y) i = (bt x i || bt y i) := by unfold bt; rw [Int32.toBitVec_or, BitVec.getLsbD_or]
theorem b_and (x y : Int32) (i : Nat) : bt (x &&& y) i = (bt x i && bt y i) := by unfold bt; rw [Int32.toBitVec_and, BitVec.getLsbD_and]
theorem b_xor (x y : Int32) (i : Nat) : bt (x ^^^ y) i = (bt x i ^^ bt y i) := by unfold bt; rw [Int32.toBitVec_xor, BitVec.getLsbD_xor]
theorem b_big {x : Int32} {i : Nat} (h : 32 ≤ i) : bt x i = false := BitVec.getLsbD_of_ge _ _ h
theorem b_255 (i : Nat) : bt 255 i = decide (i < 8) := by
  rcases Nat.lt_or_ge i 32 with h | h
  · exact (by decide +kernel : ∀ i, i < 32 → bt 255 i = decide (i < 8)) i h
  · rw [b_big h, decide_eq_false (by omega)]
theorem b_65535 (i : Nat) : bt 65535 i = decide (i < 16) := by
  rcases Nat.lt_or_ge i 32 with h | h
  · exact (by decide +kernel : ∀ i, i < 32 → bt 65535 i = decide (i < 16)) i h
  · rw [b_big h, decide_eq_false (by omega)]
theorem b_m1 : ∀ i, i < 32 → bt (-1) i = true := by decide +kernel
theorem b_0 (i : Nat) : bt 0 i = false := BitVec.getLsbD_zero
theorem s_l : ∀ n, n < 32 → ((nI n &&& 31).toBitVec.smod 32).toNat = n := by decide +kernel
theorem s_u : ∀ n, n < 32 → (((nI n).toUInt32 &&& Int32.toUInt32 31).toBitVec % 32).toNat = n := by decide +kernel
theorem b_shl (n : Nat) (hn : n < 32) (x : Int32) {i : Nat} (hi : i < 32) : bt (x <<< (nI n &&& 31)) i = (decide (n ≤ i) && bt x (i - n)) := by
  unfold bt
  rw [Int32.toBitVec_shiftLeft]
  show (x.toBitVec <<< ((nI n &&& 31).toBitVec.smod 32).toNat).getLsbD i = _
  rw [s_l n hn, BitVec.getLsbD_shiftLeft]
  rcases Nat.lt_or_ge i n with h | h
  · simp [h, Nat.not_le.mpr h]
  · simp [hi, h, Nat.not_lt.mpr h]
theorem b_ushr (n : Nat) (hn : n < 32) (x : Int32) (i : Nat) : bt ((x.toUInt32 >>> ((nI n).toUInt32 &&& Int32.toUInt32 31)).toInt32) i = bt x (n + i) := by
  show (x.toUInt32 >>> ((nI n).toUInt32 &&& Int32.toUInt32 31)).toBitVec.getLsbD i = x.toUInt32.toBitVec.getLsbD (n + i)
  rw [UInt32.toBitVec_shiftRight]
  show (x.toUInt32.toBitVec >>> (((nI n).toUInt32 &&& Int32.toUInt32 31).toBitVec % 32).toNat).getLsbD i = _
  rw [s_u n hn, BitVec.getLsbD_ushiftRight]
theorem b_sshr (n : Nat) (hn : n < 32) (x : Int32) {i : Nat} (hi : i < 32) : bt (x >>> (nI n &&& 31)) i = if n + i < 32 then bt x (n + i) else bt x 31 := by
  unfold bt
  rw [Int32.toBitVec_shiftRight]
  show (x.toBitVec.sshiftRight ((nI n &&& 31).toBitVec.smod 32).toNat).getLsbD i = _
  rw [s_l n hn, BitVec.getLsbD_sshiftRight, BitVec.msb_eq_getLsbD_last]
  simp [hi]
theorem b_shl8 (x : Int32) {i : Nat} (hi : i < 32) : bt (x <<< ((8 : Int32) &&& 31)) i = (decide (8 ≤ i) && bt x (i - 8)) := b_shl 8 (by omega) x hi
theorem b_shl16 (x : Int32) {i : Nat} (hi : i < 32) : bt (x <<< ((16 : Int32) &&& 31)) i = (decide (16 ≤ i) && bt x (i - 16)) := b_shl 16 (by omega) x hi
theorem b_shl24 (x : Int32) {i : Nat} (hi : i < 32) : bt (x <<< ((24 : Int32) &&& 31)) i = (decide (24 ≤ i) && bt x (i - 24)) := b_shl 24 (by omega) x hi
theorem b_sshr8 (x : Int32) {i : Nat} (hi : i < 32) : bt (x >>> ((8 : Int32) &&& 31)) i = if 8 + i < 32 then bt x (8 + i) else bt x 31 := b_sshr 8 (by omega) x hi
/-! ===== nI under and, xor, >>>, one bit, 65535 ===== -/
theorem nx_and (a b : Nat) : nI a &&& nI b = nI (a &&& b) := by
  apply Int32.toBitVec_inj.1
  show BitVec.ofNat 32 a &&& BitVec.ofNat 32 b = BitVec.ofNat 32 (a &&& b)
  apply BitVec.eq_of_getLsbD_eq
  intro i hi
  simp [hi]
theorem nx_xor (a b : Nat) : nI a ^^^ nI b = nI (a ^^^ b) := by
  apply Int32.toBitVec_inj.1
  show BitVec.ofNat 32 a ^^^ BitVec.ofNat 32 b = BitVec.ofNat 32 (a ^^^ b)
  apply BitVec.eq_of_getLsbD_eq
  intro i hi
  simp [hi]
theorem nx_cnt : ∀ j : Fin 32, (UInt32.ofNat j.val &&& Int32.toUInt32 31).toNat % 32 = j.val := by decide +kernel
theorem nx_ush {k j : Nat} (hk : k < 65536) (hj : j < 32) : ((nI k).toUInt32 >>> ((nI j).toUInt32 &&& Int32.toUInt32 31)).toInt32 = nI (k >>> j) := by
  have hs : k >>> j ≤ k := by
    rw [Nat.shiftRight_eq_div_pow]
    exact Nat.div_le_self _ _
  have e2 : UInt32.ofNat k >>> (UInt32.ofNat j &&& Int32.toUInt32 31) = UInt32.ofNat (k >>> j) := by
    apply UInt32.toNat_inj.1
    have h1 : (UInt32.ofNat k).toNat = k := Nat.mod_eq_of_lt (by omega)
    have h2 : (UInt32.ofNat (k >>> j)).toNat = k >>> j := Nat.mod_eq_of_lt (by omega)
    rw [UInt32.toNat_shiftRight, nx_cnt ⟨j, hj⟩, h1, h2]
  show (UInt32.ofNat k >>> (UInt32.ofNat j &&& Int32.toUInt32 31)).toInt32 = _
  rw [e2]
  rfl
theorem nx_bit {k j : Nat} (hk : k < 65536) (hj : j < 16) : (((nI k).toUInt32 >>> ((nI j).toUInt32 &&& Int32.toUInt32 31)).toInt32 &&& 1) = 0 ↔ k.testBit j = false := by
  rw [nx_ush hk (by omega)]
  show nI (k >>> j) &&& nI 1 = 0 ↔ _
  rw [nx_and, Nat.and_one_is_mod, ← nI_0, nI_eq (by omega) (by omega), Nat.testBit_eq_decide_div_mod_eq, Nat.shiftRight_eq_div_pow, decide_eq_false_iff_not]
  generalize k / 2 ^ j = z
  omega
theorem nx_mod (k : Nat) : nI k &&& 65535 = nI (k % 65536) := by
  show nI k &&& nI 65535 = _
  rw [nx_and, show (65535 : Nat) = 2 ^ 16 - 1 from rfl, Nat.and_two_pow_sub_one_eq_mod]
theorem nx_m16 {k : Nat} (h : k < 65536) : nI k &&& 65535 = nI k := by rw [nx_mod, Nat.mod_eq_of_lt h]
theorem nx_mask (x : Int32) : ∃ k, k < 65536 ∧ x &&& 65535 = nI k := by
  have e : x = nI x.toBitVec.toNat := by
    apply Int32.toBitVec_inj.1
    show x.toBitVec = BitVec.ofNat 32 x.toBitVec.toNat
    simp
  refine ⟨x.toBitVec.toNat % 65536, Nat.mod_lt _ (by omega), ?_⟩
  rw [← nx_mod, ← e]
/-! ===== one bit, both ways ===== -/
theorem bt_1 (i : Nat) : bt (nI 1) i = decide (i = 0) := by
  rcases Nat.lt_or_ge i 32 with h | h
  · exact (by decide +kernel : ∀ i, i < 32 → bt (nI 1) i = decide (i = 0)) i h
  · rw [b_big h, decide_eq_false (by omega)]
theorem has_bt (x : Int32) {j : Nat} (hj : j < 32) : (x >>> (nI j &&& 31) &&& nI 1 = nI 1) ↔ bt x j = true := by
  constructor
  · intro h
    have h0 := congrArg (fun z => bt z 0) h
    simp only [b_and, bt_1, b_sshr j hj x (show 0 < 32 by decide)] at h0
    simp only [Nat.add_zero, if_pos hj] at h0
    simpa using h0
  · intro h
    apply b_ext
    intro i hi
    rw [b_and, bt_1, b_sshr j hj x hi]
    by_cases h0 : i = 0
    · subst h0
      simp [hj, h]
    · simp [h0]
theorem and_bt (x : Int32) {j : Nat} (hj : j < 32) : (x &&& (nI 1 <<< (nI j &&& 31)) = 0) ↔ bt x j = false := by
  constructor
  · intro h
    have h0 := congrArg (fun z => bt z j) h
    simp only [b_and, b_shl j hj _ hj, bt_1, b_0] at h0
    simpa using h0
  · intro h
    apply b_ext
    intro i hi
    rw [b_and, b_shl j hj _ hi, bt_1, b_0]
    by_cases h0 : i = j
    · subst h0
      simp [h]
    · have : ¬ (j ≤ i ∧ i - j = 0) := by omega
      by_cases h1 : j ≤ i
      · have : ¬ i - j = 0 := by omega
        simp [this]
      · simp [h1]
theorem sh_31 (k : Int32) : ∃ j, j < 32 ∧ k &&& 31 = nI j &&& 31 := by
  obtain ⟨j, hj, e⟩ := pk_andE k (m := 31) 5 (by decide)
  exact ⟨j, by omega, by rw [e]; exact (by decide +kernel : ∀ j, j < 32 → nI j = nI j &&& 31) j (by omega)⟩
end
section
/-! WORLDS: the reference's row of 624 numbers is the one mathematical value s; the class's Network is pictured out of the same s -/
abbrev Sz : Type := Nat → Int32
def seg (s : Sz) (o n : Nat) : Nat → Int32 := fun k => if k < n then s (o + k) else 0
theorem seg_at {s : Sz} {o n j : Nat} (h : j < n) : seg s o n j = s (o + j) := by simp [seg, h]
theorem seg_out {s : Sz} {f o n : Nat} {v : Int32} (h : f < o ∨ o + n ≤ f) : seg (upd s f v) o n = seg s o n := by
  funext k
  unfold seg
  by_cases hk : k < n
  · rw [if_pos hk, if_pos hk, pk_un (by omega)]
  · rw [if_neg hk, if_neg hk]
theorem seg_in {s : Sz} {o n j : Nat} {v : Int32} (h : j < n) : seg (upd s (o + j) v) o n = upd (seg s o n) j v := by
  funext k
  unfold seg upd
  by_cases hk : k < n
  · by_cases hj : k = j
    · subst hj; simp [hk]
    · simp [hk, hj]
  · have : k ≠ j := by omega
    simp [hk, this]
theorem seg_eq {s s' : Sz} {o n : Nat} (h : ∀ k, k < n → s (o + k) = s' (o + k)) : seg s o n = seg s' o n := by
  funext k
  unfold seg
  by_cases hk : k < n
  · rw [if_pos hk, if_pos hk, h k hk]
  · rw [if_neg hk, if_neg hk]
abbrev mF (a : Nat → Nat) (np : Nat) (hs : Int64) : List Value := [.ref (a 1), .ref (a 2), .int (nI np), .ref (a 3), .ref (a 4), .ref (a 5), .long hs]
def mW (cI : ClassId) (a : Nat → Nat) (s pst : Sz) (np : Nat) (er od rk : Sz) (hs : Int64) : va_W := [(a 0, .inr (2, mF a np hs)), (a 1, .inl (cI, 624, .inl s)), (a 2, .inl (cI, 2496, .inl pst)), (a 3, .inl (cI, 2, .inl er)), (a 4, .inl (cI, 8, .inl od)), (a 5, .inl (cI, 8, .inl rk))]
abbrev nF (a : Nat → Nat) (s : Sz) : List Value := [.int (s 0), .int (s 2), .int (s 1), .int (s 3), .int (s 4), .int (s 5), .int (s 6), .int (s 7), .int (s 8), .ref (a 1), .ref (a 2), .ref (a 3), .ref (a 4), .ref (a 5), .ref (a 6), .ref (a 7)]
def nW (cI : ClassId) (a : Nat → Nat) (s rk : Sz) : va_W := [(a 0, .inr (0, nF a s)), (a 1, .inl (cI, 5, .inl (seg s 9 5))), (a 2, .inl (cI, 5, .inl (seg s 14 5))), (a 3, .inl (cI, 5, .inl (seg s 19 5))), (a 4, .inl (cI, 200, .inl (seg s 24 200))), (a 5, .inl (cI, 200, .inl (seg s 224 200))), (a 6, .inl (cI, 200, .inl (seg s 424 200))), (a 7, .inl (cI, 8, .inl rk))]
/-- one number of the 624 changes: the picture with that one cell changed -/
theorem nW_upd (cI : ClassId) (a : Nat → Nat) (s rk : Sz) (f : Nat) (v : Int32) : nW cI a (upd s f v) rk = [(a 0, .inr (0, nF a (upd s f v))), (a 1, .inl (cI, 5, .inl (seg (upd s f v) 9 5))), (a 2, .inl (cI, 5, .inl (seg (upd s f v) 14 5))), (a 3, .inl (cI, 5, .inl (seg (upd s f v) 19 5))), (a 4, .inl (cI, 200, .inl (seg (upd s f v) 24 200))), (a 5, .inl (cI, 200, .inl (seg (upd s f v) 224 200))), (a 6, .inl (cI, 200, .inl (seg (upd s f v) 424 200))), (a 7, .inl (cI, 8, .inl rk))] := rfl
theorem nF_hi (a : Nat → Nat) (s : Sz) (f : Nat) (v : Int32) (h : 9 ≤ f) : nF a (upd s f v) = nF a s := by
  have e : ∀ i, i < 9 → upd s f v i = s i := fun i hi => pk_un (by omega)
  simp only [nF, e 0 (by decide), e 1 (by decide), e 2 (by decide), e 3 (by decide), e 4 (by decide), e 5 (by decide), e 6 (by decide), e 7 (by decide), e 8 (by decide)]
theorem nW_lo (cI : ClassId) (a : Nat → Nat) (s rk : Sz) (f : Nat) (v : Int32) (h : f < 9) : nW cI a (upd s f v) rk = (nW cI a s rk).set 0 (a 0, .inr (0, nF a (upd s f v))) := by
  rw [nW_upd, seg_out (Or.inl (by omega)), seg_out (Or.inl (by omega)), seg_out (Or.inl (by omega)), seg_out (Or.inl (by omega)), seg_out (Or.inl (by omega)), seg_out (Or.inl (by omega))]
  rfl
theorem nF_0 (a : Nat → Nat) (s : Sz) (v : Int32) : (nF a s).set 0 (.int v) = nF a (upd s 0 v) := rfl
theorem nF_1 (a : Nat → Nat) (s : Sz) (v : Int32) : (nF a s).set 1 (.int v) = nF a (upd s 2 v) := rfl
theorem nF_2 (a : Nat → Nat) (s : Sz) (v : Int32) : (nF a s).set 2 (.int v) = nF a (upd s 1 v) := rfl
theorem nF_3 (a : Nat → Nat) (s : Sz) (v : Int32) : (nF a s).set 3 (.int v) = nF a (upd s 3 v) := rfl
theorem nF_4 (a : Nat → Nat) (s : Sz) (v : Int32) : (nF a s).set 4 (.int v) = nF a (upd s 4 v) := rfl
theorem nF_5 (a : Nat → Nat) (s : Sz) (v : Int32) : (nF a s).set 5 (.int v) = nF a (upd s 5 v) := rfl
theorem nF_6 (a : Nat → Nat) (s : Sz) (v : Int32) : (nF a s).set 6 (.int v) = nF a (upd s 6 v) := rfl
theorem nF_7 (a : Nat → Nat) (s : Sz) (v : Int32) : (nF a s).set 7 (.int v) = nF a (upd s 7 v) := rfl
theorem nF_8 (a : Nat → Nat) (s : Sz) (v : Int32) : (nF a s).set 8 (.int v) = nF a (upd s 8 v) := rfl
theorem nW_f0 (cI : ClassId) (a : Nat → Nat) (s rk : Sz) (v : Int32) : (nW cI a s rk).set 0 (a 0, .inr (0, (nF a s).set 0 (.int v))) = nW cI a (upd s 0 v) rk := by rw [nW_lo _ _ _ _ _ _ (by decide), nF_0]
theorem nW_f1 (cI : ClassId) (a : Nat → Nat) (s rk : Sz) (v : Int32) : (nW cI a s rk).set 0 (a 0, .inr (0, (nF a s).set 1 (.int v))) = nW cI a (upd s 2 v) rk := by rw [nW_lo _ _ _ _ _ _ (by decide), nF_1]
theorem nW_f2 (cI : ClassId) (a : Nat → Nat) (s rk : Sz) (v : Int32) : (nW cI a s rk).set 0 (a 0, .inr (0, (nF a s).set 2 (.int v))) = nW cI a (upd s 1 v) rk := by rw [nW_lo _ _ _ _ _ _ (by decide), nF_2]
theorem nW_f3 (cI : ClassId) (a : Nat → Nat) (s rk : Sz) (v : Int32) : (nW cI a s rk).set 0 (a 0, .inr (0, (nF a s).set 3 (.int v))) = nW cI a (upd s 3 v) rk := by rw [nW_lo _ _ _ _ _ _ (by decide), nF_3]
theorem nW_f4 (cI : ClassId) (a : Nat → Nat) (s rk : Sz) (v : Int32) : (nW cI a s rk).set 0 (a 0, .inr (0, (nF a s).set 4 (.int v))) = nW cI a (upd s 4 v) rk := by rw [nW_lo _ _ _ _ _ _ (by decide), nF_4]
theorem nW_f5 (cI : ClassId) (a : Nat → Nat) (s rk : Sz) (v : Int32) : (nW cI a s rk).set 0 (a 0, .inr (0, (nF a s).set 5 (.int v))) = nW cI a (upd s 5 v) rk := by rw [nW_lo _ _ _ _ _ _ (by decide), nF_5]
theorem nW_f6 (cI : ClassId) (a : Nat → Nat) (s rk : Sz) (v : Int32) : (nW cI a s rk).set 0 (a 0, .inr (0, (nF a s).set 6 (.int v))) = nW cI a (upd s 6 v) rk := by rw [nW_lo _ _ _ _ _ _ (by decide), nF_6]
theorem nW_f7 (cI : ClassId) (a : Nat → Nat) (s rk : Sz) (v : Int32) : (nW cI a s rk).set 0 (a 0, .inr (0, (nF a s).set 7 (.int v))) = nW cI a (upd s 7 v) rk := by rw [nW_lo _ _ _ _ _ _ (by decide), nF_7]
theorem nW_f8 (cI : ClassId) (a : Nat → Nat) (s rk : Sz) (v : Int32) : (nW cI a s rk).set 0 (a 0, .inr (0, (nF a s).set 8 (.int v))) = nW cI a (upd s 8 v) rk := by rw [nW_lo _ _ _ _ _ _ (by decide), nF_8]
theorem nW_a1 (cI : ClassId) (a : Nat → Nat) (s rk : Sz) {j : Nat} (h : j < 5) (v : Int32) : (nW cI a s rk).set 1 (a 1, .inl (cI, 5, .inl (upd (seg s 9 5) j v))) = nW cI a (upd s (9 + j) v) rk := by
  rw [nW_upd, nF_hi _ _ _ _ (by omega), seg_in h, seg_out (by omega), seg_out (by omega), seg_out (by omega), seg_out (by omega), seg_out (by omega)]; rfl
theorem nW_a2 (cI : ClassId) (a : Nat → Nat) (s rk : Sz) {j : Nat} (h : j < 5) (v : Int32) : (nW cI a s rk).set 2 (a 2, .inl (cI, 5, .inl (upd (seg s 14 5) j v))) = nW cI a (upd s (14 + j) v) rk := by
  rw [nW_upd, nF_hi _ _ _ _ (by omega), seg_out (o := 9) (by omega), seg_in h, seg_out (by omega), seg_out (by omega), seg_out (by omega), seg_out (by omega)]; rfl
theorem nW_a3 (cI : ClassId) (a : Nat → Nat) (s rk : Sz) {j : Nat} (h : j < 5) (v : Int32) : (nW cI a s rk).set 3 (a 3, .inl (cI, 5, .inl (upd (seg s 19 5) j v))) = nW cI a (upd s (19 + j) v) rk := by
  rw [nW_upd, nF_hi _ _ _ _ (by omega), seg_out (o := 9) (by omega), seg_out (o := 14) (by omega), seg_in h, seg_out (by omega), seg_out (by omega), seg_out (by omega)]; rfl
theorem nW_a4 (cI : ClassId) (a : Nat → Nat) (s rk : Sz) {j : Nat} (h : j < 200) (v : Int32) : (nW cI a s rk).set 4 (a 4, .inl (cI, 200, .inl (upd (seg s 24 200) j v))) = nW cI a (upd s (24 + j) v) rk := by
  rw [nW_upd, nF_hi _ _ _ _ (by omega), seg_out (o := 9) (by omega), seg_out (o := 14) (by omega), seg_out (o := 19) (by omega), seg_in h, seg_out (by omega), seg_out (by omega)]; rfl
theorem nW_a5 (cI : ClassId) (a : Nat → Nat) (s rk : Sz) {j : Nat} (h : j < 200) (v : Int32) : (nW cI a s rk).set 5 (a 5, .inl (cI, 200, .inl (upd (seg s 224 200) j v))) = nW cI a (upd s (224 + j) v) rk := by
  rw [nW_upd, nF_hi _ _ _ _ (by omega), seg_out (o := 9) (by omega), seg_out (o := 14) (by omega), seg_out (o := 19) (by omega), seg_out (o := 24) (by omega), seg_in h, seg_out (by omega)]; rfl
theorem nW_a6 (cI : ClassId) (a : Nat → Nat) (s rk : Sz) {j : Nat} (h : j < 200) (v : Int32) : (nW cI a s rk).set 6 (a 6, .inl (cI, 200, .inl (upd (seg s 424 200) j v))) = nW cI a (upd s (424 + j) v) rk := by
  rw [nW_upd, nF_hi _ _ _ _ (by omega), seg_out (o := 9) (by omega), seg_out (o := 14) (by omega), seg_out (o := 19) (by omega), seg_out (o := 24) (by omega), seg_out (o := 224) (by omega), seg_in h]; rfl
/-- only the 624 numbers count -/
theorem nW_eq {cI : ClassId} {a : Nat → Nat} {s s' rk : Sz} (h : ∀ k, k < 624 → s k = s' k) : nW cI a s rk = nW cI a s' rk := by
  unfold nW
  rw [seg_eq (s := s) (s' := s') (o := 9) (fun k hk => h _ (by omega)), seg_eq (s := s) (s' := s') (o := 14) (fun k hk => h _ (by omega)), seg_eq (s := s) (s' := s') (o := 19) (fun k hk => h _ (by omega)), seg_eq (s := s) (s' := s') (o := 24) (fun k hk => h _ (by omega)), seg_eq (s := s) (s' := s') (o := 224) (fun k hk => h _ (by omega)), seg_eq (s := s) (s' := s') (o := 424) (fun k hk => h _ (by omega))]
  simp only [nF, h 0 (by decide), h 1 (by decide), h 2 (by decide), h 3 (by decide), h 4 (by decide), h 5 (by decide), h 6 (by decide), h 7 (by decide), h 8 (by decide)]
abbrev xF (b : Nat → Nat) (an : Nat → Nat → Nat) (nx cnt : Nat) (iv rj : Int32) : List Value := [.ref (an 0 0), .ref (b 1), .int (nI nx), .int (nI cnt), .int iv, .int rj]
def xR (an : Nat → Nat → Nat) : Nat → Option Nat := fun i => some (an (i + 1) 0)
def xW (cI cN : ClassId) (b : Nat → Nat) (an : Nat → Nat → Nat) (s rk : Sz) (sv rv : Nat → Sz) (nx cnt : Nat) (iv rj : Int32) : va_W :=
  [(b 0, .inr (1, xF b an nx cnt iv rj)), (b 1, .inl (cN, 4, .inr (.inr (.inr (.inr (xR an))))))] ++ (nW cI (an 0) s rk ++ (nW cI (an 1) (sv 0) (rv 0) ++ (nW cI (an 2) (sv 1) (rv 1) ++ (nW cI (an 3) (sv 2) (rv 2) ++ nW cI (an 4) (sv 3) (rv 3)))))
end
section
/-! WHAT THE METHODS ANSWER, as functions of the numbers: the small ones -/
def fIn (v lo hi : Int32) : Bool := decide (lo ≤ v) && decide (v ≤ hi)
theorem fIn_a {v lo hi : Int32} (h : v < lo) : false = fIn v lo hi := by
  have : ¬ lo ≤ v := by rw [Int32.le_iff_toInt_le]; rw [Int32.lt_iff_toInt_lt] at h; omega
  simp [fIn, this]
theorem fIn_b {v lo hi : Int32} (h : hi < v) : false = fIn v lo hi := by
  have : ¬ v ≤ hi := by rw [Int32.le_iff_toInt_le]; rw [Int32.lt_iff_toInt_lt] at h; omega
  simp [fIn, this]
theorem fIn_c {v lo hi : Int32} (h1 : ¬ v < lo) (h2 : ¬ hi < v) : true = fIn v lo hi := by
  have a : lo ≤ v := by rw [Int32.le_iff_toInt_le]; rw [Int32.lt_iff_toInt_lt] at h1; omega
  have b : v ≤ hi := by rw [Int32.le_iff_toInt_le]; rw [Int32.lt_iff_toInt_lt] at h2; omega
  simp [fIn, a, b]
theorem fIn_iff {v lo hi : Int32} : fIn v lo hi = true ↔ lo ≤ v ∧ v ≤ hi := by simp [fIn]
def fHas (set k : Int32) : Bool := decide (set >>> (k &&& 31) &&& nI 1 = nI 1)
def fSt (k : Int32) : Bool := fIn k (nI 0) (nI 4)
def fCh (k : Int32) : Bool := fIn k (nI 0) (nI 7)
def fWd (k : Int32) : Bool := fIn k (nI 0) (nI 16777215)
def fPr (a b : Int32) : Bool := fSt a && fSt b && !decide (a = b)
def fTh (a b c : Int32) : Bool := fPr a b && fCh c
def fNet (k ms : Int32) : Bool := fSt k && fIn ms (nI 1) (nI 31) && !fHas ms k
def fMaj (a b c : Int32) : Int32 := a &&& b ||| a &&& c ||| b &&& c
def fAt (a b c : Nat) : Nat := 40 * a + 8 * b + c
theorem fAt_lt {a b c : Nat} (ha : a < 5) (hb : b < 5) (hc : c < 8) : fAt a b c < 200 := by unfold fAt; omega
def fCnI (set : Int32) : Nat → Int32
  | 0 => nI 0
  | i + 1 => fCnI set i + (set >>> (nI i &&& 31) &&& nI 1)
def cnt (t : Nat) : Nat := (fCnI (nI t) 8).toNatClampNeg
theorem cnt_ok : ∀ t, t < 256 → fCnI (nI t) 8 = nI (cnt t) ∧ cnt t ≤ 8 ∧ (1 ≤ t → 1 ≤ cnt t) := by decide +kernel
def fBc (x0 : Int32) : Int32 :=
  let x1 := x0 - ((x0.toUInt32 >>> ((nI 1).toUInt32 &&& Int32.toUInt32 31)).toInt32 &&& nI 1431655765)
  let x2 := (x1 &&& nI 858993459) + ((x1.toUInt32 >>> ((nI 2).toUInt32 &&& Int32.toUInt32 31)).toInt32 &&& nI 858993459)
  let x3 := x2 + (x2.toUInt32 >>> ((nI 4).toUInt32 &&& Int32.toUInt32 31)).toInt32 &&& nI 252645135
  let x4 := x3 + (x3.toUInt32 >>> ((nI 8).toUInt32 &&& Int32.toUInt32 31)).toInt32
  let x5 := x4 + (x4.toUInt32 >>> ((nI 16).toUInt32 &&& Int32.toUInt32 31)).toInt32
  x5 &&& nI 63
theorem fBc_cnt : ∀ t, t < 256 → fBc (nI t) = nI (cnt t) := by decide +kernel
theorem fSt_nat {k : Int32} (h : fSt k = true) : ∃ j, j < 5 ∧ k = nI j := by
  obtain ⟨h1, h2⟩ := fIn_iff.mp h
  have z0 : (nI 0).toInt = 0 := by decide
  have z1 : (0 : Int32).toInt = 0 := by decide
  have h3 : ¬ k < 0 := by
    rw [Int32.lt_iff_toInt_lt, z1]; rw [Int32.le_iff_toInt_le, z0] at h1; omega
  obtain ⟨j, hj, e⟩ := nI_of2 (x := k) (M := nI 4) (n := 4) (by decide) h3 h2
  exact ⟨j, by omega, e⟩
theorem fCh_nat {k : Int32} (h : fCh k = true) : ∃ j, j < 8 ∧ k = nI j := by
  obtain ⟨h1, h2⟩ := fIn_iff.mp h
  have z0 : (nI 0).toInt = 0 := by decide
  have z1 : (0 : Int32).toInt = 0 := by decide
  have h3 : ¬ k < 0 := by
    rw [Int32.lt_iff_toInt_lt, z1]; rw [Int32.le_iff_toInt_le, z0] at h1; omega
  obtain ⟨j, hj, e⟩ := nI_of2 (x := k) (M := nI 7) (n := 7) (by decide) h3 h2
  exact ⟨j, by omega, e⟩
theorem fSt_of : ∀ j, j < 5 → fSt (nI j) = true := by decide +kernel
theorem fCh_of : ∀ j, j < 8 → fCh (nI j) = true := by decide +kernel
theorem nI_inj {a b : Nat} (ha : a < 2 ^ 31) (hb : b < 2 ^ 31) (h : nI a = nI b) : a = b := (nI_eq ha hb).mp h
/-- the draws -/
def fDx (x : Int32) : Int32 := x * nI 1103515245 + nI 12345 &&& nI 2147483647
def fDv (x : Int32) : Int32 := x / nI 65536 - x / nI 65536 / nI 31 * nI 31
def fDl (x : Int32) : Int32 := (x.toInt64 * 1103515245 + 12345 - (x.toInt64 * 1103515245 + 12345) / 2147483648 * 2147483648).toInt32
def fNn (s : Sz) : Prop := 0 ≤ (s 1).toInt
def fCp (w q : Int32) : Nat → Sz → Int32 × Sz
  | 0, s => (w, s)
  | i + 1, s => (if nI 2 * fDv (fDx ((fCp w q i s).2 1)) ≤ nI 30 + q then (fCp w q i s).1 else (fCp w q i s).1 ^^^ (nI 1 <<< (nI i &&& 31)), upd (fCp w q i s).2 1 (fDx ((fCp w q i s).2 1)))
def fUn (u : Int32) : Nat → Nat
  | 0 => 0
  | i + 1 => fUn u i + (if fHas u (nI i) = true then 0 else 1)
theorem fUn_le (u : Int32) : ∀ i, fUn u i ≤ i
  | 0 => Nat.le_refl _
  | i + 1 => by
    have := fUn_le u i
    simp only [fUn]
    split <;> omega
def fEf (a b c : Nat) (s : Sz) : Int32 := if s (224 + fAt a b c) = -1 then -1 else if 0 < s (224 + fAt a b c) - (s 0 - s (424 + fAt a b c)) / s 2 then s (224 + fAt a b c) - (s 0 - s (424 + fAt a b c)) / s 2 else nI 0
theorem fDl_eq {x : Int32} (h : 0 ≤ x.toInt) : fDl x = fDx x := by
  obtain ⟨n, hn, rfl⟩ := nI_of (x := x) (by rw [Int32.lt_iff_toInt_lt]; have : (0 : Int32).toInt = 0 := by decide
                                            omega)
  have e1 : (1103515245 : Int64) = lN 1103515245 := by decide
  have e2 : (12345 : Int64) = lN 12345 := by decide
  have e3 : (2147483648 : Int64) = lN 2147483648 := by decide
  have l : fDl (nI n) = nI ((n * 1103515245 + 12345) % 2147483648) := by
    unfold fDl
    rw [nI_l hn, e1, e2, e3, lN_mul, lN_add, pk_lRem (by omega) (by omega) (by omega), lN_i]
  have r : fDx (nI n) = nI ((n * 1103515245 + 12345) % 2147483648) := by
    unfold fDx
    rw [pk_mul, nI_add, pk_and (k := 31) _ (by decide)]
    refine congrArg nI ?_
    have : (nI (n * 1103515245 + 12345)).toBitVec.toNat = (n * 1103515245 + 12345) % 2 ^ 32 := by
      show (BitVec.ofNat 32 _).toNat = _
      exact BitVec.toNat_ofNat _ _
    rw [this]
    omega
  rw [l, r]
theorem fDx_nn (x : Int32) : 0 ≤ (fDx x).toInt := by
  unfold fDx
  rw [pk_and (k := 31) _ (by decide), nI_toInt (Nat.mod_lt _ (by decide))]
  omega
theorem fCp_nn (w q : Int32) : ∀ i s, fNn s → fNn (fCp w q i s).2
  | 0, s, h => h
  | i + 1, s, h => by
    unfold fNn
    show 0 ≤ (upd (fCp w q i s).2 1 (fDx ((fCp w q i s).2 1)) 1).toInt
    rw [pk_us]
    exact fDx_nn _
theorem fCp_out (w q : Int32) (j : Nat) (hj : j ≠ 1) : ∀ i s, (fCp w q i s).2 j = s j
  | 0, s => rfl
  | i + 1, s => by
    show upd (fCp w q i s).2 1 (fDx ((fCp w q i s).2 1)) j = _
    rw [pk_un hj]
    exact fCp_out w q j hj i s
end
section
theorem ti0 : (0 : Int32).toInt = 0 := by decide
theorem xSt_a {k : Int32} (h : k < 0) : false = fSt k := fIn_a (show k < nI 0 from h)
theorem xSt_b {k : Int32} (h0 : ¬ k < 0) (h : nI 5 ≤ k) : false = fSt k := by
  have z5 : (nI 5).toInt = 5 := by decide
  have z4 : (nI 4).toInt = 4 := by decide
  refine fIn_b ?_
  rw [Int32.lt_iff_toInt_lt, z4]; rw [Int32.le_iff_toInt_le, z5] at h; omega
theorem xSt_c {k : Int32} (h0 : ¬ k < 0) (h : ¬ nI 5 ≤ k) : true = fSt k := by
  have z5 : (nI 5).toInt = 5 := by decide
  have z4 : (nI 4).toInt = 4 := by decide
  refine fIn_c h0 ?_
  rw [Int32.lt_iff_toInt_lt, z4]; rw [Int32.le_iff_toInt_le, z5] at h; omega
theorem xCh_a {k : Int32} (h : k < 0) : false = fCh k := fIn_a (show k < nI 0 from h)
theorem xCh_b {k : Int32} (h0 : ¬ k < 0) (h : nI 8 ≤ k) : false = fCh k := by
  have z5 : (nI 8).toInt = 8 := by decide
  have z4 : (nI 7).toInt = 7 := by decide
  refine fIn_b ?_
  rw [Int32.lt_iff_toInt_lt, z4]; rw [Int32.le_iff_toInt_le, z5] at h; omega
theorem xCh_c {k : Int32} (h0 : ¬ k < 0) (h : ¬ nI 8 ≤ k) : true = fCh k := by
  have z5 : (nI 8).toInt = 8 := by decide
  have z4 : (nI 7).toInt = 7 := by decide
  refine fIn_c h0 ?_
  rw [Int32.lt_iff_toInt_lt, z4]; rw [Int32.le_iff_toInt_le, z5] at h; omega
theorem xHas (set k : Int32) : set &&& (nI 1 <<< (k &&& 31)) = 0 ↔ fHas set k = false := by
  obtain ⟨j, hj, e⟩ := sh_31 k
  unfold fHas
  rw [e, and_bt set hj, decide_eq_false_iff_not, has_bt set hj]
  cases bt set j <;> simp
theorem xHas_a {set k : Int32} (h : set &&& (nI 1 <<< (k &&& 31)) = 0) : false = fHas set k := ((xHas set k).mp h).symm
theorem xHas_b {set k : Int32} (h : ¬ set &&& (nI 1 <<< (k &&& 31)) = 0) : true = fHas set k := by
  cases e : fHas set k
  · exact absurd ((xHas set k).mpr e) h
  · rfl
theorem fHas_bt (x : Int32) {j : Nat} (hj : j < 32) : fHas x (nI j) = bt x j := by
  unfold fHas
  cases e : bt x j
  · rw [decide_eq_false_iff_not, has_bt x hj, e]; simp
  · rw [decide_eq_true_eq, has_bt x hj, e]
theorem hd_X2_in : hdZ yX2_in 3 := by decide +kernel
set_option maxRecDepth 100000 in
set_option maxHeartbeats 4000000 in
theorem c_X2_in (l : Launch) (D : va_G) (cI cN : ClassId) (v : Int32) (lo : Int32) (hi : Int32) : Fn l D cI cN yX2_in wsX2_in 0 ([] : va_W) [.int v, .int lo, .int hi] (some (.int (b2i (fIn v lo hi)))) ([] : va_W) := by
  refine Fn.of (cc := cX2_in) (nL := 3) (ret := (some .boolean)) (lv := [(0, .int v), (1, .int lo), (2, .int hi)]) (by decide +kernel) rfl (Nat.le_of_ble_eq_true rfl) rfl ?_
  intro p e s_ m args below meth c A B hr hA H locs ls hz hl
  have hx := B.1.1
  have hb := B.1.2.1
  refine lv_iload_n hx hb dX2_in_0 rfl (lv_at hl 0 rfl) ?_
  refine lv_iload_n hx hb dX2_in_1 rfl (lv_at hl 1 rfl) ?_
  refine lv_icmp_lt (tgt := 14) hx hb dX2_in_2 (by decide) (fun c2 => ?_) (fun c2 => ?_)
  · refine lv_iconst (v := (nI 0)) hx hb dX2_in_14 (by decide) ?_
    exact rz_z0 B hr hz dX2_in_15 (by first | exact fIn_a c2 | exact fIn_b c7 | exact fIn_c c2 c7) (by rfl)
  · refine lv_iload_n hx hb dX2_in_5 rfl (lv_at hl 0 rfl) ?_
    refine lv_iload_n hx hb dX2_in_6 rfl (lv_at hl 2 rfl) ?_
    refine lv_icmp_gt (tgt := 14) hx hb dX2_in_7 (by decide) (fun c7 => ?_) (fun c7 => ?_)
    · refine lv_iconst (v := (nI 0)) hx hb dX2_in_14 (by decide) ?_
      exact rz_z0 B hr hz dX2_in_15 (by first | exact fIn_a c2 | exact fIn_b c7 | exact fIn_c c2 c7) (by rfl)
    · refine lv_iconst (v := (nI 1)) hx hb dX2_in_10 (by decide) ?_
      refine lv_goto (tgt := 15) hx hb dX2_in_11 (by decide) ?_
      exact rz_z1 B hr hz dX2_in_15 (by first | exact fIn_a c2 | exact fIn_b c7 | exact fIn_c c2 c7) (by rfl)
theorem hd_X2_has : hdZ yX2_has 2 := by decide +kernel
set_option maxRecDepth 100000 in
set_option maxHeartbeats 4000000 in
theorem c_X2_has (l : Launch) (D : va_G) (cI cN : ClassId) (set : Int32) (k : Int32) : Fn l D cI cN yX2_has wsX2_has 0 ([] : va_W) [.int set, .int k] (some (.int (b2i (fHas set k)))) ([] : va_W) := by
  refine Fn.of (cc := cX2_has) (nL := 2) (ret := (some .boolean)) (lv := [(0, .int set), (1, .int k)]) (by decide +kernel) rfl (Nat.le_of_ble_eq_true rfl) rfl ?_
  intro p e s_ m args below meth c A B hr hA H locs ls hz hl
  have hx := B.1.1
  have hb := B.1.2.1
  refine lv_iload_n hx hb dX2_has_0 rfl (lv_at hl 0 rfl) ?_
  refine lv_iload_n hx hb dX2_has_1 rfl (lv_at hl 1 rfl) ?_
  refine lv_ishr hx hb dX2_has_2 ?_
  refine lv_iconst (v := (nI 1)) hx hb dX2_has_3 (by decide) ?_
  refine lv_iand hx hb dX2_has_4 ?_
  refine lv_iconst (v := (nI 1)) hx hb dX2_has_5 (by decide) ?_
  refine lv_icmp_ne (tgt := 13) hx hb dX2_has_6 (by decide) (fun c6 => ?_) (fun c6 => ?_)
  · refine lv_iconst (v := (nI 0)) hx hb dX2_has_13 (by decide) ?_
    exact rz_z0 B hr hz dX2_has_14 (by simp [fHas, c6]) (by rfl)
  · refine lv_iconst (v := (nI 1)) hx hb dX2_has_9 (by decide) ?_
    refine lv_goto (tgt := 14) hx hb dX2_has_10 (by decide) ?_
    exact rz_z1 B hr hz dX2_has_14 (by simp [fHas, c6]) (by rfl)
theorem hd_X2_isStation : hdZ yX2_isStation 1 := by decide +kernel
set_option maxRecDepth 100000 in
set_option maxHeartbeats 4000000 in
theorem c_X2_isStation (l : Launch) (D : va_G) (cI cN : ClassId) (k : Int32) : Fn l D cI cN yX2_isStation wsX2_isStation 1 ([] : va_W) [.int k] (some (.int (b2i (fSt k)))) ([] : va_W) := by
  refine Fn.of (cc := cX2_isStation) (nL := 1) (ret := (some .boolean)) (lv := [(0, .int k)]) (by decide +kernel) rfl (Nat.le_of_ble_eq_true rfl) rfl ?_
  intro p e s_ m args below meth c A B hr hA H locs ls hz hl
  have hx := B.1.1
  have hb := B.1.2.1
  refine lv_iload_n hx hb dX2_isStation_0 rfl (lv_at hl 0 rfl) ?_
  refine lv_iconst (v := (nI 0)) hx hb dX2_isStation_1 (by decide) ?_
  refine lv_iconst (v := (nI 4)) hx hb dX2_isStation_2 (by decide) ?_
  refine cS (k := 1) (As := [.int k, .int (nI 0), .int (nI 4)]) (rest := []) (v := .int (b2i (fIn k (nI 0) (nI 4)))) B hz hA (c_X2_in l D cI cN k (nI 0) (nI 4) ) gX2_isStation_X2_in rfl hd_X2_in (by decide) rfl hl.1 rfl (Nat.le_of_ble_eq_true rfl) dX2_isStation_3 (fun H locs hz => ?_)
  exact rz_z B hr hz dX2_isStation_6 (by rfl) (by rfl)
theorem hd_X2_isChannel : hdZ yX2_isChannel 1 := by decide +kernel
set_option maxRecDepth 100000 in
set_option maxHeartbeats 4000000 in
theorem c_X2_isChannel (l : Launch) (D : va_G) (cI cN : ClassId) (k : Int32) : Fn l D cI cN yX2_isChannel wsX2_isChannel 1 ([] : va_W) [.int k] (some (.int (b2i (fCh k)))) ([] : va_W) := by
  refine Fn.of (cc := cX2_isChannel) (nL := 1) (ret := (some .boolean)) (lv := [(0, .int k)]) (by decide +kernel) rfl (Nat.le_of_ble_eq_true rfl) rfl ?_
  intro p e s_ m args below meth c A B hr hA H locs ls hz hl
  have hx := B.1.1
  have hb := B.1.2.1
  refine lv_iload_n hx hb dX2_isChannel_0 rfl (lv_at hl 0 rfl) ?_
  refine lv_iconst (v := (nI 0)) hx hb dX2_isChannel_1 (by decide) ?_
  refine lv_bipush (v := (nI 7)) hx hb dX2_isChannel_2 (by decide) ?_
  refine cS (k := 1) (As := [.int k, .int (nI 0), .int (nI 7)]) (rest := []) (v := .int (b2i (fIn k (nI 0) (nI 7)))) B hz hA (c_X2_in l D cI cN k (nI 0) (nI 7) ) gX2_isChannel_X2_in rfl hd_X2_in (by decide) rfl hl.1 rfl (Nat.le_of_ble_eq_true rfl) dX2_isChannel_4 (fun H locs hz => ?_)
  exact rz_z B hr hz dX2_isChannel_7 (by rfl) (by rfl)
theorem hd_X2_isWord : hdZ yX2_isWord 1 := by decide +kernel
set_option maxRecDepth 100000 in
set_option maxHeartbeats 4000000 in
theorem c_X2_isWord (l : Launch) (D : va_G) (cI cN : ClassId) (k : Int32) : Fn l D cI cN yX2_isWord wsX2_isWord 1 ([] : va_W) [.int k] (some (.int (b2i (fWd k)))) ([] : va_W) := by
  refine Fn.of (cc := cX2_isWord) (nL := 1) (ret := (some .boolean)) (lv := [(0, .int k)]) (by decide +kernel) rfl (Nat.le_of_ble_eq_true rfl) rfl ?_
  intro p e s_ m args below meth c A B hr hA H locs ls hz hl
  have hx := B.1.1
  have hb := B.1.2.1
  refine lv_iload_n hx hb dX2_isWord_0 rfl (lv_at hl 0 rfl) ?_
  refine lv_iconst (v := (nI 0)) hx hb dX2_isWord_1 (by decide) ?_
  refine ldcz (v := (nI 16777215)) B (by decide +kernel) dX2_isWord_2 ?_
  refine cS (k := 1) (As := [.int k, .int (nI 0), .int (nI 16777215)]) (rest := []) (v := .int (b2i (fIn k (nI 0) (nI 16777215)))) B hz hA (c_X2_in l D cI cN k (nI 0) (nI 16777215) ) gX2_isWord_X2_in rfl hd_X2_in (by decide) rfl hl.1 rfl (Nat.le_of_ble_eq_true rfl) dX2_isWord_4 (fun H locs hz => ?_)
  exact rz_z B hr hz dX2_isWord_7 (by rfl) (by rfl)
theorem hd_X2_arePair : hdZ yX2_arePair 2 := by decide +kernel
set_option maxRecDepth 100000 in
set_option maxHeartbeats 4000000 in
theorem c_X2_arePair (l : Launch) (D : va_G) (cI cN : ClassId) (x : Int32) (y : Int32) : Fn l D cI cN yX2_arePair wsX2_arePair 2 ([] : va_W) [.int x, .int y] (some (.int (b2i (fPr x y)))) ([] : va_W) := by
  refine Fn.of (cc := cX2_arePair) (nL := 2) (ret := (some .boolean)) (lv := [(0, .int x), (1, .int y)]) (by decide +kernel) rfl (Nat.le_of_ble_eq_true rfl) rfl ?_
  intro p e s_ m args below meth c A B hr hA H locs ls hz hl
  have hx := B.1.1
  have hb := B.1.2.1
  refine lv_iload_n hx hb dX2_arePair_0 rfl (lv_at hl 0 rfl) ?_
  refine cS (k := 2) (As := [.int x]) (rest := []) (v := .int (b2i (fSt x))) B hz hA (c_X2_isStation l D cI cN x ) gX2_arePair_X2_isStation rfl hd_X2_isStation (by decide) rfl hl.1 rfl (Nat.le_of_ble_eq_true rfl) dX2_arePair_1 (fun H locs hz => ?_)
  refine lb_if_eq (tgt := 23) hx hb dX2_arePair_4 (by decide) (fun c4 => ?_) (fun c4 => ?_)
  · refine lv_iconst (v := (nI 0)) hx hb dX2_arePair_23 (by decide) ?_
    exact rz_z0 B hr hz dX2_arePair_24 (by simp_all [fPr]) (by rfl)
  · refine lv_iload_n hx hb dX2_arePair_7 rfl (lv_at hl 1 rfl) ?_
    refine cS (k := 2) (As := [.int y]) (rest := []) (v := .int (b2i (fSt y))) B hz hA (c_X2_isStation l D cI cN y ) gX2_arePair_X2_isStation rfl hd_X2_isStation (by decide) rfl hl.1 rfl (Nat.le_of_ble_eq_true rfl) dX2_arePair_8 (fun H locs hz => ?_)
    refine lb_if_eq (tgt := 23) hx hb dX2_arePair_11 (by decide) (fun c11 => ?_) (fun c11 => ?_)
    · refine lv_iconst (v := (nI 0)) hx hb dX2_arePair_23 (by decide) ?_
      exact rz_z0 B hr hz dX2_arePair_24 (by simp_all [fPr]) (by rfl)
    · refine lv_iload_n hx hb dX2_arePair_14 rfl (lv_at hl 0 rfl) ?_
      refine lv_iload_n hx hb dX2_arePair_15 rfl (lv_at hl 1 rfl) ?_
      refine lv_icmp_eq (tgt := 23) hx hb dX2_arePair_16 (by decide) (fun c16 => ?_) (fun c16 => ?_)
      · refine lv_iconst (v := (nI 0)) hx hb dX2_arePair_23 (by decide) ?_
        exact rz_z0 B hr hz dX2_arePair_24 (by simp_all [fPr]) (by rfl)
      · refine lv_iconst (v := (nI 1)) hx hb dX2_arePair_19 (by decide) ?_
        refine lv_goto (tgt := 24) hx hb dX2_arePair_20 (by decide) ?_
        exact rz_z1 B hr hz dX2_arePair_24 (by simp_all [fPr]) (by rfl)
theorem hd_X2_isThere : hdZ yX2_isThere 3 := by decide +kernel
set_option maxRecDepth 100000 in
set_option maxHeartbeats 4000000 in
theorem c_X2_isThere (l : Launch) (D : va_G) (cI cN : ClassId) (x : Int32) (y : Int32) (z : Int32) : Fn l D cI cN yX2_isThere wsX2_isThere 3 ([] : va_W) [.int x, .int y, .int z] (some (.int (b2i (fTh x y z)))) ([] : va_W) := by
  refine Fn.of (cc := cX2_isThere) (nL := 3) (ret := (some .boolean)) (lv := [(0, .int x), (1, .int y), (2, .int z)]) (by decide +kernel) rfl (Nat.le_of_ble_eq_true rfl) rfl ?_
  intro p e s_ m args below meth c A B hr hA H locs ls hz hl
  have hx := B.1.1
  have hb := B.1.2.1
  refine lv_iload_n hx hb dX2_isThere_0 rfl (lv_at hl 0 rfl) ?_
  refine lv_iload_n hx hb dX2_isThere_1 rfl (lv_at hl 1 rfl) ?_
  refine cS (k := 3) (As := [.int x, .int y]) (rest := []) (v := .int (b2i (fPr x y))) B hz hA (c_X2_arePair l D cI cN x y ) gX2_isThere_X2_arePair rfl hd_X2_arePair (by decide) rfl hl.1 rfl (Nat.le_of_ble_eq_true rfl) dX2_isThere_2 (fun H locs hz => ?_)
  refine lb_if_eq (tgt := 19) hx hb dX2_isThere_5 (by decide) (fun c5 => ?_) (fun c5 => ?_)
  · refine lv_iconst (v := (nI 0)) hx hb dX2_isThere_19 (by decide) ?_
    exact rz_z0 B hr hz dX2_isThere_20 (by simp_all [fTh]) (by rfl)
  · refine lv_iload_n hx hb dX2_isThere_8 rfl (lv_at hl 2 rfl) ?_
    refine cS (k := 3) (As := [.int z]) (rest := []) (v := .int (b2i (fCh z))) B hz hA (c_X2_isChannel l D cI cN z ) gX2_isThere_X2_isChannel rfl hd_X2_isChannel (by decide) rfl hl.1 rfl (Nat.le_of_ble_eq_true rfl) dX2_isThere_9 (fun H locs hz => ?_)
    refine lb_if_eq (tgt := 19) hx hb dX2_isThere_12 (by decide) (fun c12 => ?_) (fun c12 => ?_)
    · refine lv_iconst (v := (nI 0)) hx hb dX2_isThere_19 (by decide) ?_
      exact rz_z0 B hr hz dX2_isThere_20 (by simp_all [fTh]) (by rfl)
    · refine lv_iconst (v := (nI 1)) hx hb dX2_isThere_15 (by decide) ?_
      refine lv_goto (tgt := 20) hx hb dX2_isThere_16 (by decide) ?_
      exact rz_z1 B hr hz dX2_isThere_20 (by simp_all [fTh]) (by rfl)
theorem hd_X2_isNet : hdZ yX2_isNet 2 := by decide +kernel
set_option maxRecDepth 100000 in
set_option maxHeartbeats 4000000 in
theorem c_X2_isNet (l : Launch) (D : va_G) (cI cN : ClassId) (k : Int32) (ms : Int32) : Fn l D cI cN yX2_isNet wsX2_isNet 2 ([] : va_W) [.int k, .int ms] (some (.int (b2i (fNet k ms)))) ([] : va_W) := by
  refine Fn.of (cc := cX2_isNet) (nL := 2) (ret := (some .boolean)) (lv := [(0, .int k), (1, .int ms)]) (by decide +kernel) rfl (Nat.le_of_ble_eq_true rfl) rfl ?_
  intro p e s_ m args below meth c A B hr hA H locs ls hz hl
  have hx := B.1.1
  have hb := B.1.2.1
  refine lv_iload_n hx hb dX2_isNet_0 rfl (lv_at hl 0 rfl) ?_
  refine cS (k := 2) (As := [.int k]) (rest := []) (v := .int (b2i (fSt k))) B hz hA (c_X2_isStation l D cI cN k ) gX2_isNet_X2_isStation rfl hd_X2_isStation (by decide) rfl hl.1 rfl (Nat.le_of_ble_eq_true rfl) dX2_isNet_1 (fun H locs hz => ?_)
  refine lb_if_eq (tgt := 29) hx hb dX2_isNet_4 (by decide) (fun c4 => ?_) (fun c4 => ?_)
  · refine lv_iconst (v := (nI 0)) hx hb dX2_isNet_29 (by decide) ?_
    exact rz_z0 B hr hz dX2_isNet_30 (by simp_all [fNet]) (by rfl)
  · refine lv_iload_n hx hb dX2_isNet_7 rfl (lv_at hl 1 rfl) ?_
    refine lv_iconst (v := (nI 1)) hx hb dX2_isNet_8 (by decide) ?_
    refine lv_bipush (v := (nI 31)) hx hb dX2_isNet_9 (by decide) ?_
    refine cS (k := 2) (As := [.int ms, .int (nI 1), .int (nI 31)]) (rest := []) (v := .int (b2i (fIn ms (nI 1) (nI 31)))) B hz hA (c_X2_in l D cI cN ms (nI 1) (nI 31) ) gX2_isNet_X2_in rfl hd_X2_in (by decide) rfl hl.1 rfl (Nat.le_of_ble_eq_true rfl) dX2_isNet_11 (fun H locs hz => ?_)
    refine lb_if_eq (tgt := 29) hx hb dX2_isNet_14 (by decide) (fun c14 => ?_) (fun c14 => ?_)
    · refine lv_iconst (v := (nI 0)) hx hb dX2_isNet_29 (by decide) ?_
      exact rz_z0 B hr hz dX2_isNet_30 (by simp_all [fNet]) (by rfl)
    · refine lv_iload_n hx hb dX2_isNet_17 rfl (lv_at hl 1 rfl) ?_
      refine lv_iload_n hx hb dX2_isNet_18 rfl (lv_at hl 0 rfl) ?_
      refine cS (k := 2) (As := [.int ms, .int k]) (rest := []) (v := .int (b2i (fHas ms k))) B hz hA (c_X2_has l D cI cN ms k ) gX2_isNet_X2_has rfl hd_X2_has (by decide) rfl hl.1 rfl (Nat.le_of_ble_eq_true rfl) dX2_isNet_19 (fun H locs hz => ?_)
      refine lb_if_ne (tgt := 29) hx hb dX2_isNet_22 (by decide) (fun c22 => ?_) (fun c22 => ?_)
      · refine lv_iconst (v := (nI 0)) hx hb dX2_isNet_29 (by decide) ?_
        exact rz_z0 B hr hz dX2_isNet_30 (by simp_all [fNet]) (by rfl)
      · refine lv_iconst (v := (nI 1)) hx hb dX2_isNet_25 (by decide) ?_
        refine lv_goto (tgt := 30) hx hb dX2_isNet_26 (by decide) ?_
        exact rz_z1 B hr hz dX2_isNet_30 (by simp_all [fNet]) (by rfl)
theorem hd_X2_at : hdZ yX2_at 3 := by decide +kernel
set_option maxRecDepth 100000 in
set_option maxHeartbeats 4000000 in
theorem c_X2_at (l : Launch) (D : va_G) (cI cN : ClassId) (x : Nat) (y : Nat) (z : Nat) : Fn l D cI cN yX2_at wsX2_at 0 ([] : va_W) [.int (nI x), .int (nI y), .int (nI z)] (some (.int (nI (fAt x y z)))) ([] : va_W) := by
  refine Fn.of (cc := cX2_at) (nL := 3) (ret := (some .int)) (lv := [(0, .int (nI x)), (1, .int (nI y)), (2, .int (nI z))]) (by decide +kernel) rfl (Nat.le_of_ble_eq_true rfl) rfl ?_
  intro p e s_ m args below meth c A B hr hA H locs ls hz hl
  have hx := B.1.1
  have hb := B.1.2.1
  refine lv_bipush (v := (nI 40)) hx hb dX2_at_0 (by decide) ?_
  refine lv_iload_n hx hb dX2_at_2 rfl (lv_at hl 0 rfl) ?_
  refine ln_mul hx hb dX2_at_3 ?_
  refine lv_bipush (v := (nI 8)) hx hb dX2_at_4 (by decide) ?_
  refine lv_iload_n hx hb dX2_at_6 rfl (lv_at hl 1 rfl) ?_
  refine ln_mul hx hb dX2_at_7 ?_
  refine ln_add hx hb dX2_at_8 ?_
  refine lv_iload_n hx hb dX2_at_9 rfl (lv_at hl 2 rfl) ?_
  refine ln_add hx hb dX2_at_10 ?_
  exact rz_i B hr hz dX2_at_11 (by rfl) (by rfl)
theorem hd_X2_majority : hdZ yX2_majority 3 := by decide +kernel
set_option maxRecDepth 100000 in
set_option maxHeartbeats 4000000 in
theorem c_X2_majority (l : Launch) (D : va_G) (cI cN : ClassId) (x : Int32) (y : Int32) (z : Int32) : Fn l D cI cN yX2_majority wsX2_majority 0 ([] : va_W) [.int x, .int y, .int z] (some (.int (fMaj x y z))) ([] : va_W) := by
  refine Fn.of (cc := cX2_majority) (nL := 3) (ret := (some .int)) (lv := [(0, .int x), (1, .int y), (2, .int z)]) (by decide +kernel) rfl (Nat.le_of_ble_eq_true rfl) rfl ?_
  intro p e s_ m args below meth c A B hr hA H locs ls hz hl
  have hx := B.1.1
  have hb := B.1.2.1
  refine lv_iload_n hx hb dX2_majority_0 rfl (lv_at hl 0 rfl) ?_
  refine lv_iload_n hx hb dX2_majority_1 rfl (lv_at hl 1 rfl) ?_
  refine lv_iand hx hb dX2_majority_2 ?_
  refine lv_iload_n hx hb dX2_majority_3 rfl (lv_at hl 0 rfl) ?_
  refine lv_iload_n hx hb dX2_majority_4 rfl (lv_at hl 2 rfl) ?_
  refine lv_iand hx hb dX2_majority_5 ?_
  refine lv_ior hx hb dX2_majority_6 ?_
  refine lv_iload_n hx hb dX2_majority_7 rfl (lv_at hl 1 rfl) ?_
  refine lv_iload_n hx hb dX2_majority_8 rfl (lv_at hl 2 rfl) ?_
  refine lv_iand hx hb dX2_majority_9 ?_
  refine lv_ior hx hb dX2_majority_10 ?_
  exact rz_i B hr hz dX2_majority_11 (by rfl) (by rfl)
theorem hd_X2_count : hdZ yX2_count 1 := by decide +kernel
set_option maxRecDepth 100000 in
set_option maxHeartbeats 4000000 in
theorem c_X2_count (l : Launch) (D : va_G) (cI cN : ClassId) (t : Nat) (ht : t < 256) : Fn l D cI cN yX2_count wsX2_count 0 ([] : va_W) [.int (nI t)] (some (.int (nI (cnt t)))) ([] : va_W) := by
  refine Fn.of (cc := cX2_count) (nL := 3) (ret := (some .int)) (lv := [(0, .int (nI t))]) (by decide +kernel) rfl (Nat.le_of_ble_eq_true rfl) rfl ?_
  intro p e s_ m args below meth c A B hr hA H locs ls hz hl
  have hx := B.1.1
  have hb := B.1.2.1
  refine lv_iconst (v := (nI 0)) hx hb dX2_count_0 (by decide) ?_
  refine lv_istore_n (lv' := [(1, .int (nI 0)), (0, .int (nI t))]) hx hb dX2_count_1 rfl hl (by decide) rfl (fun ls hl => ?_)
  refine lv_iconst (v := (nI 0)) hx hb dX2_count_2 (by decide) ?_
  refine lv_istore_n (lv' := [(2, .int (nI 0)), (1, .int (nI 0)), (0, .int (nI t))]) hx hb dX2_count_3 rfl hl (by decide) rfl (fun ls hl => ?_)
  have LP : ∀ (n_LP : Nat) (i : Nat), i ≤ 8 → 8 - i < n_LP → ∀ (H : Heap) (locs : List Loc) (ls : Array Slot), Hz D A s_.heap H locs ([] : va_W) → lv_has ls 3 [(0, .int (nI t)), (1, .int (fCnI (nI t) i)), (2, .int (nI i))] → Wz p l e 0 s_ m args below meth c D A (some (.int (nI (cnt t)))) ([] : va_W) H locs (F0 m 4 ls []) := by
    intro n_LP
    induction n_LP with
    | zero => intro i hi hm; exact absurd hm (Nat.not_lt_zero _)
    | succ n_LP ih_LP =>
      intro i hi hm H locs ls hz hl
      refine lv_iload_n hx hb dX2_count_4 rfl (lv_at hl 2 rfl) ?_
      refine lv_bipush (v := (nI 8)) hx hb dX2_count_5 (by decide) ?_
      refine ln_icmp_ge (tgt := 24) hx hb dX2_count_7 (by decide) (by constructor <;> omega) (fun c7 => ?_) (fun c7 => ?_)
      · refine lv_iload_n hx hb dX2_count_24 rfl (lv_at hl 1 rfl) ?_
        exact rz_i B hr hz dX2_count_25 (by rw [show i = 8 by omega]; exact (cnt_ok t ht).1) (by rfl)
      · refine lv_iload_n hx hb dX2_count_10 rfl (lv_at hl 1 rfl) ?_
        refine lv_iload_n hx hb dX2_count_11 rfl (lv_at hl 0 rfl) ?_
        refine lv_iload_n hx hb dX2_count_12 rfl (lv_at hl 2 rfl) ?_
        refine lv_ishr hx hb dX2_count_13 ?_
        refine lv_iconst (v := (nI 1)) hx hb dX2_count_14 (by decide) ?_
        refine lv_iand hx hb dX2_count_15 ?_
        refine lv_iadd hx hb dX2_count_16 ?_
        refine lv_istore_n (lv' := [(1, .int ((fCnI (nI t) i) + (((nI t) >>> ((nI i) &&& 31)) &&& (nI 1)))), (0, .int (nI t)), (2, .int (nI i))]) hx hb dX2_count_17 rfl hl (by decide) rfl (fun ls hl => ?_)
        refine lv_iinc (v := nI (i + 1)) (lv' := [(2, .int (nI (i + 1))), (1, .int ((fCnI (nI t) i) + (((nI t) >>> ((nI i) &&& 31)) &&& (nI 1)))), (0, .int (nI t))]) hx hb dX2_count_18 hl (k := 2) rfl (nI_add i 1) (by decide) rfl (fun ls hl => ?_)
        refine lv_goto (tgt := 4) hx hb dX2_count_21 (by decide) ?_
        exact ih_LP (i + 1) (by omega) (by omega) H locs ls (hz.cast (by rfl)) (lv_cast (lv_sub hl [2, 1, 0] (l' := [(0, .int (nI t)), (1, .int ((fCnI (nI t) i) + (((nI t) >>> ((nI i) &&& 31)) &&& (nI 1)))), (2, .int (nI (i + 1)))]) rfl) (by rfl))
  exact LP _ 0 (by omega) (Nat.lt_succ_self _) H locs ls (hz.cast (by rfl)) (lv_cast (lv_sub hl [2, 1, 0] (l' := [(0, .int (nI t)), (1, .int (nI 0)), (2, .int (nI 0))]) rfl) (by rfl))
theorem hd_X1_isStation : hdZ yX1_isStation 1 := by decide +kernel
set_option maxRecDepth 100000 in
set_option maxHeartbeats 4000000 in
theorem c_X1_isStation (l : Launch) (D : va_G) (cI cN : ClassId) (k : Int32) : Fn l D cI cN yX1_isStation wsX1_isStation 0 ([] : va_W) [.int k] (some (.int (b2i (fSt k)))) ([] : va_W) := by
  refine Fn.of (cc := cX1_isStation) (nL := 1) (ret := (some .boolean)) (lv := [(0, .int k)]) (by decide +kernel) rfl (Nat.le_of_ble_eq_true rfl) rfl ?_
  intro p e s_ m args below meth c A B hr hA H locs ls hz hl
  have hx := B.1.1
  have hb := B.1.2.1
  refine lv_iload_n hx hb dX1_isStation_0 rfl (lv_at hl 0 rfl) ?_
  refine lv_if_lt (tgt := 13) hx hb dX1_isStation_1 (by decide) (fun c1 => ?_) (fun c1 => ?_)
  · refine lv_iconst (v := (nI 0)) hx hb dX1_isStation_13 (by decide) ?_
    exact rz_z0 B hr hz dX1_isStation_14 (by first | exact xSt_a c1 | exact xSt_b c1 c6 | exact xSt_c c1 c6) (by rfl)
  · refine lv_iload_n hx hb dX1_isStation_4 rfl (lv_at hl 0 rfl) ?_
    refine lv_iconst (v := (nI 5)) hx hb dX1_isStation_5 (by decide) ?_
    refine lv_icmp_ge (tgt := 13) hx hb dX1_isStation_6 (by decide) (fun c6 => ?_) (fun c6 => ?_)
    · refine lv_iconst (v := (nI 0)) hx hb dX1_isStation_13 (by decide) ?_
      exact rz_z0 B hr hz dX1_isStation_14 (by first | exact xSt_a c1 | exact xSt_b c1 c6 | exact xSt_c c1 c6) (by rfl)
    · refine lv_iconst (v := (nI 1)) hx hb dX1_isStation_9 (by decide) ?_
      refine lv_goto (tgt := 14) hx hb dX1_isStation_10 (by decide) ?_
      exact rz_z1 B hr hz dX1_isStation_14 (by first | exact xSt_a c1 | exact xSt_b c1 c6 | exact xSt_c c1 c6) (by rfl)
theorem hd_X1_isChannel : hdZ yX1_isChannel 1 := by decide +kernel
set_option maxRecDepth 100000 in
set_option maxHeartbeats 4000000 in
theorem c_X1_isChannel (l : Launch) (D : va_G) (cI cN : ClassId) (k : Int32) : Fn l D cI cN yX1_isChannel wsX1_isChannel 0 ([] : va_W) [.int k] (some (.int (b2i (fCh k)))) ([] : va_W) := by
  refine Fn.of (cc := cX1_isChannel) (nL := 1) (ret := (some .boolean)) (lv := [(0, .int k)]) (by decide +kernel) rfl (Nat.le_of_ble_eq_true rfl) rfl ?_
  intro p e s_ m args below meth c A B hr hA H locs ls hz hl
  have hx := B.1.1
  have hb := B.1.2.1
  refine lv_iload_n hx hb dX1_isChannel_0 rfl (lv_at hl 0 rfl) ?_
  refine lv_if_lt (tgt := 14) hx hb dX1_isChannel_1 (by decide) (fun c1 => ?_) (fun c1 => ?_)
  · refine lv_iconst (v := (nI 0)) hx hb dX1_isChannel_14 (by decide) ?_
    exact rz_z0 B hr hz dX1_isChannel_15 (by first | exact xCh_a c1 | exact xCh_b c1 c7 | exact xCh_c c1 c7) (by rfl)
  · refine lv_iload_n hx hb dX1_isChannel_4 rfl (lv_at hl 0 rfl) ?_
    refine lv_bipush (v := (nI 8)) hx hb dX1_isChannel_5 (by decide) ?_
    refine lv_icmp_ge (tgt := 14) hx hb dX1_isChannel_7 (by decide) (fun c7 => ?_) (fun c7 => ?_)
    · refine lv_iconst (v := (nI 0)) hx hb dX1_isChannel_14 (by decide) ?_
      exact rz_z0 B hr hz dX1_isChannel_15 (by first | exact xCh_a c1 | exact xCh_b c1 c7 | exact xCh_c c1 c7) (by rfl)
    · refine lv_iconst (v := (nI 1)) hx hb dX1_isChannel_10 (by decide) ?_
      refine lv_goto (tgt := 15) hx hb dX1_isChannel_11 (by decide) ?_
      exact rz_z1 B hr hz dX1_isChannel_15 (by first | exact xCh_a c1 | exact xCh_b c1 c7 | exact xCh_c c1 c7) (by rfl)
theorem hd_X1_isWord : hdZ yX1_isWord 1 := by decide +kernel
set_option maxRecDepth 100000 in
set_option maxHeartbeats 4000000 in
theorem c_X1_isWord (l : Launch) (D : va_G) (cI cN : ClassId) (k : Int32) : Fn l D cI cN yX1_isWord wsX1_isWord 0 ([] : va_W) [.int k] (some (.int (b2i (fWd k)))) ([] : va_W) := by
  refine Fn.of (cc := cX1_isWord) (nL := 1) (ret := (some .boolean)) (lv := [(0, .int k)]) (by decide +kernel) rfl (Nat.le_of_ble_eq_true rfl) rfl ?_
  intro p e s_ m args below meth c A B hr hA H locs ls hz hl
  have hx := B.1.1
  have hb := B.1.2.1
  refine lv_iload_n hx hb dX1_isWord_0 rfl (lv_at hl 0 rfl) ?_
  refine lv_if_lt (tgt := 14) hx hb dX1_isWord_1 (by decide) (fun c1 => ?_) (fun c1 => ?_)
  · refine lv_iconst (v := (nI 0)) hx hb dX1_isWord_14 (by decide) ?_
    exact rz_z0 B hr hz dX1_isWord_15 (by first | exact fIn_a c1 | exact fIn_b c7 | exact fIn_c c1 c7) (by rfl)
  · refine lv_iload_n hx hb dX1_isWord_4 rfl (lv_at hl 0 rfl) ?_
    refine ldcz (v := (nI 16777215)) B (by decide +kernel) dX1_isWord_5 ?_
    refine lv_icmp_gt (tgt := 14) hx hb dX1_isWord_7 (by decide) (fun c7 => ?_) (fun c7 => ?_)
    · refine lv_iconst (v := (nI 0)) hx hb dX1_isWord_14 (by decide) ?_
      exact rz_z0 B hr hz dX1_isWord_15 (by first | exact fIn_a c1 | exact fIn_b c7 | exact fIn_c c1 c7) (by rfl)
    · refine lv_iconst (v := (nI 1)) hx hb dX1_isWord_10 (by decide) ?_
      refine lv_goto (tgt := 15) hx hb dX1_isWord_11 (by decide) ?_
      exact rz_z1 B hr hz dX1_isWord_15 (by first | exact fIn_a c1 | exact fIn_b c7 | exact fIn_c c1 c7) (by rfl)
theorem hd_X1_isPair : hdZ yX1_isPair 2 := by decide +kernel
set_option maxRecDepth 100000 in
set_option maxHeartbeats 4000000 in
theorem c_X1_isPair (l : Launch) (D : va_G) (cI cN : ClassId) (x : Int32) (y : Int32) : Fn l D cI cN yX1_isPair wsX1_isPair 1 ([] : va_W) [.int x, .int y] (some (.int (b2i (fPr x y)))) ([] : va_W) := by
  refine Fn.of (cc := cX1_isPair) (nL := 2) (ret := (some .boolean)) (lv := [(0, .int x), (1, .int y)]) (by decide +kernel) rfl (Nat.le_of_ble_eq_true rfl) rfl ?_
  intro p e s_ m args below meth c A B hr hA H locs ls hz hl
  have hx := B.1.1
  have hb := B.1.2.1
  refine lv_iload_n hx hb dX1_isPair_0 rfl (lv_at hl 0 rfl) ?_
  refine cS (k := 1) (As := [.int x]) (rest := []) (v := .int (b2i (fSt x))) B hz hA (c_X1_isStation l D cI cN x ) gX1_isPair_X1_isStation rfl hd_X1_isStation (by decide) rfl hl.1 rfl (Nat.le_of_ble_eq_true rfl) dX1_isPair_1 (fun H locs hz => ?_)
  refine lb_if_eq (tgt := 23) hx hb dX1_isPair_4 (by decide) (fun c4 => ?_) (fun c4 => ?_)
  · refine lv_iconst (v := (nI 0)) hx hb dX1_isPair_23 (by decide) ?_
    exact rz_z0 B hr hz dX1_isPair_24 (by simp_all [fPr]) (by rfl)
  · refine lv_iload_n hx hb dX1_isPair_7 rfl (lv_at hl 1 rfl) ?_
    refine cS (k := 1) (As := [.int y]) (rest := []) (v := .int (b2i (fSt y))) B hz hA (c_X1_isStation l D cI cN y ) gX1_isPair_X1_isStation rfl hd_X1_isStation (by decide) rfl hl.1 rfl (Nat.le_of_ble_eq_true rfl) dX1_isPair_8 (fun H locs hz => ?_)
    refine lb_if_eq (tgt := 23) hx hb dX1_isPair_11 (by decide) (fun c11 => ?_) (fun c11 => ?_)
    · refine lv_iconst (v := (nI 0)) hx hb dX1_isPair_23 (by decide) ?_
      exact rz_z0 B hr hz dX1_isPair_24 (by simp_all [fPr]) (by rfl)
    · refine lv_iload_n hx hb dX1_isPair_14 rfl (lv_at hl 0 rfl) ?_
      refine lv_iload_n hx hb dX1_isPair_15 rfl (lv_at hl 1 rfl) ?_
      refine lv_icmp_eq (tgt := 23) hx hb dX1_isPair_16 (by decide) (fun c16 => ?_) (fun c16 => ?_)
      · refine lv_iconst (v := (nI 0)) hx hb dX1_isPair_23 (by decide) ?_
        exact rz_z0 B hr hz dX1_isPair_24 (by simp_all [fPr]) (by rfl)
      · refine lv_iconst (v := (nI 1)) hx hb dX1_isPair_19 (by decide) ?_
        refine lv_goto (tgt := 24) hx hb dX1_isPair_20 (by decide) ?_
        exact rz_z1 B hr hz dX1_isPair_24 (by simp_all [fPr]) (by rfl)
theorem hd_X1_isCell : hdZ yX1_isCell 3 := by decide +kernel
set_option maxRecDepth 100000 in
set_option maxHeartbeats 4000000 in
theorem c_X1_isCell (l : Launch) (D : va_G) (cI cN : ClassId) (x : Int32) (y : Int32) (z : Int32) : Fn l D cI cN yX1_isCell wsX1_isCell 2 ([] : va_W) [.int x, .int y, .int z] (some (.int (b2i (fTh x y z)))) ([] : va_W) := by
  refine Fn.of (cc := cX1_isCell) (nL := 3) (ret := (some .boolean)) (lv := [(0, .int x), (1, .int y), (2, .int z)]) (by decide +kernel) rfl (Nat.le_of_ble_eq_true rfl) rfl ?_
  intro p e s_ m args below meth c A B hr hA H locs ls hz hl
  have hx := B.1.1
  have hb := B.1.2.1
  refine lv_iload_n hx hb dX1_isCell_0 rfl (lv_at hl 0 rfl) ?_
  refine lv_iload_n hx hb dX1_isCell_1 rfl (lv_at hl 1 rfl) ?_
  refine cS (k := 2) (As := [.int x, .int y]) (rest := []) (v := .int (b2i (fPr x y))) B hz hA (c_X1_isPair l D cI cN x y ) gX1_isCell_X1_isPair rfl hd_X1_isPair (by decide) rfl hl.1 rfl (Nat.le_of_ble_eq_true rfl) dX1_isCell_2 (fun H locs hz => ?_)
  refine lb_if_eq (tgt := 19) hx hb dX1_isCell_5 (by decide) (fun c5 => ?_) (fun c5 => ?_)
  · refine lv_iconst (v := (nI 0)) hx hb dX1_isCell_19 (by decide) ?_
    exact rz_z0 B hr hz dX1_isCell_20 (by simp_all [fTh]) (by rfl)
  · refine lv_iload_n hx hb dX1_isCell_8 rfl (lv_at hl 2 rfl) ?_
    refine cS (k := 2) (As := [.int z]) (rest := []) (v := .int (b2i (fCh z))) B hz hA (c_X1_isChannel l D cI cN z ) gX1_isCell_X1_isChannel rfl hd_X1_isChannel (by decide) rfl hl.1 rfl (Nat.le_of_ble_eq_true rfl) dX1_isCell_9 (fun H locs hz => ?_)
    refine lb_if_eq (tgt := 19) hx hb dX1_isCell_12 (by decide) (fun c12 => ?_) (fun c12 => ?_)
    · refine lv_iconst (v := (nI 0)) hx hb dX1_isCell_19 (by decide) ?_
      exact rz_z0 B hr hz dX1_isCell_20 (by simp_all [fTh]) (by rfl)
    · refine lv_iconst (v := (nI 1)) hx hb dX1_isCell_15 (by decide) ?_
      refine lv_goto (tgt := 20) hx hb dX1_isCell_16 (by decide) ?_
      exact rz_z1 B hr hz dX1_isCell_20 (by simp_all [fTh]) (by rfl)
theorem hd_X1_contains : hdZ yX1_contains 2 := by decide +kernel
set_option maxRecDepth 100000 in
set_option maxHeartbeats 4000000 in
theorem c_X1_contains (l : Launch) (D : va_G) (cI cN : ClassId) (set : Int32) (k : Int32) : Fn l D cI cN yX1_contains wsX1_contains 0 ([] : va_W) [.int set, .int k] (some (.int (b2i (fHas set k)))) ([] : va_W) := by
  refine Fn.of (cc := cX1_contains) (nL := 2) (ret := (some .boolean)) (lv := [(0, .int set), (1, .int k)]) (by decide +kernel) rfl (Nat.le_of_ble_eq_true rfl) rfl ?_
  intro p e s_ m args below meth c A B hr hA H locs ls hz hl
  have hx := B.1.1
  have hb := B.1.2.1
  refine lv_iload_n hx hb dX1_contains_0 rfl (lv_at hl 0 rfl) ?_
  refine lv_iconst (v := (nI 1)) hx hb dX1_contains_1 (by decide) ?_
  refine lv_iload_n hx hb dX1_contains_2 rfl (lv_at hl 1 rfl) ?_
  refine lv_ishl hx hb dX1_contains_3 ?_
  refine lv_iand hx hb dX1_contains_4 ?_
  refine lv_if_eq (tgt := 12) hx hb dX1_contains_5 (by decide) (fun c5 => ?_) (fun c5 => ?_)
  · refine lv_iconst (v := (nI 0)) hx hb dX1_contains_12 (by decide) ?_
    exact rz_z0 B hr hz dX1_contains_13 (by first | exact xHas_a c5 | exact xHas_b c5) (by rfl)
  · refine lv_iconst (v := (nI 1)) hx hb dX1_contains_8 (by decide) ?_
    refine lv_goto (tgt := 13) hx hb dX1_contains_9 (by decide) ?_
    exact rz_z1 B hr hz dX1_contains_13 (by first | exact xHas_a c5 | exact xHas_b c5) (by rfl)
theorem hd_X1_isNet : hdZ yX1_isNet 2 := by decide +kernel
set_option maxRecDepth 100000 in
set_option maxHeartbeats 4000000 in
theorem c_X1_isNet (l : Launch) (D : va_G) (cI cN : ClassId) (k : Int32) (ms : Int32) : Fn l D cI cN yX1_isNet wsX1_isNet 1 ([] : va_W) [.int k, .int ms] (some (.int (b2i (fNet k ms)))) ([] : va_W) := by
  refine Fn.of (cc := cX1_isNet) (nL := 2) (ret := (some .boolean)) (lv := [(0, .int k), (1, .int ms)]) (by decide +kernel) rfl (Nat.le_of_ble_eq_true rfl) rfl ?_
  intro p e s_ m args below meth c A B hr hA H locs ls hz hl
  have hx := B.1.1
  have hb := B.1.2.1
  refine lv_iload_n hx hb dX1_isNet_0 rfl (lv_at hl 0 rfl) ?_
  refine cS (k := 1) (As := [.int k]) (rest := []) (v := .int (b2i (fSt k))) B hz hA (c_X1_isStation l D cI cN k ) gX1_isNet_X1_isStation rfl hd_X1_isStation (by decide) rfl hl.1 rfl (Nat.le_of_ble_eq_true rfl) dX1_isNet_1 (fun H locs hz => ?_)
  refine lb_if_eq (tgt := 30) hx hb dX1_isNet_4 (by decide) (fun c4 => ?_) (fun c4 => ?_)
  · refine lv_iconst (v := (nI 0)) hx hb dX1_isNet_30 (by decide) ?_
    exact rz_z0 B hr hz dX1_isNet_31 (by first | (simp [fNet, c4]; done) | (simp [fNet, c4, ← fIn_a c9]; done) | (simp [fNet, c4, ← fIn_b c15]; done) | (simp [fNet, c4, ← fIn_c c9 c15, c23]; done)) (by rfl)
  · refine lv_iload_n hx hb dX1_isNet_7 rfl (lv_at hl 1 rfl) ?_
    refine lv_iconst (v := (nI 1)) hx hb dX1_isNet_8 (by decide) ?_
    refine lv_icmp_lt (tgt := 30) hx hb dX1_isNet_9 (by decide) (fun c9 => ?_) (fun c9 => ?_)
    · refine lv_iconst (v := (nI 0)) hx hb dX1_isNet_30 (by decide) ?_
      exact rz_z0 B hr hz dX1_isNet_31 (by first | (simp [fNet, c4]; done) | (simp [fNet, c4, ← fIn_a c9]; done) | (simp [fNet, c4, ← fIn_b c15]; done) | (simp [fNet, c4, ← fIn_c c9 c15, c23]; done)) (by rfl)
    · refine lv_iload_n hx hb dX1_isNet_12 rfl (lv_at hl 1 rfl) ?_
      refine lv_bipush (v := (nI 31)) hx hb dX1_isNet_13 (by decide) ?_
      refine lv_icmp_gt (tgt := 30) hx hb dX1_isNet_15 (by decide) (fun c15 => ?_) (fun c15 => ?_)
      · refine lv_iconst (v := (nI 0)) hx hb dX1_isNet_30 (by decide) ?_
        exact rz_z0 B hr hz dX1_isNet_31 (by first | (simp [fNet, c4]; done) | (simp [fNet, c4, ← fIn_a c9]; done) | (simp [fNet, c4, ← fIn_b c15]; done) | (simp [fNet, c4, ← fIn_c c9 c15, c23]; done)) (by rfl)
      · refine lv_iload_n hx hb dX1_isNet_18 rfl (lv_at hl 1 rfl) ?_
        refine lv_iload_n hx hb dX1_isNet_19 rfl (lv_at hl 0 rfl) ?_
        refine cS (k := 1) (As := [.int ms, .int k]) (rest := []) (v := .int (b2i (fHas ms k))) B hz hA (c_X1_contains l D cI cN ms k ) gX1_isNet_X1_contains rfl hd_X1_contains (by decide) rfl hl.1 rfl (Nat.le_of_ble_eq_true rfl) dX1_isNet_20 (fun H locs hz => ?_)
        refine lb_if_ne (tgt := 30) hx hb dX1_isNet_23 (by decide) (fun c23 => ?_) (fun c23 => ?_)
        · refine lv_iconst (v := (nI 0)) hx hb dX1_isNet_30 (by decide) ?_
          exact rz_z0 B hr hz dX1_isNet_31 (by first | (simp [fNet, c4]; done) | (simp [fNet, c4, ← fIn_a c9]; done) | (simp [fNet, c4, ← fIn_b c15]; done) | (simp [fNet, c4, ← fIn_c c9 c15, c23]; done)) (by rfl)
        · refine lv_iconst (v := (nI 1)) hx hb dX1_isNet_26 (by decide) ?_
          refine lv_goto (tgt := 31) hx hb dX1_isNet_27 (by decide) ?_
          exact rz_z1 B hr hz dX1_isNet_31 (by first | (simp [fNet, c4]; done) | (simp [fNet, c4, ← fIn_a c9]; done) | (simp [fNet, c4, ← fIn_b c15]; done) | (simp [fNet, c4, ← fIn_c c9 c15, c23]; done)) (by rfl)
theorem hd_X1_cell : hdZ yX1_cell 3 := by decide +kernel
set_option maxRecDepth 100000 in
set_option maxHeartbeats 4000000 in
theorem c_X1_cell (l : Launch) (D : va_G) (cI cN : ClassId) (x : Nat) (y : Nat) (z : Nat) : Fn l D cI cN yX1_cell wsX1_cell 0 ([] : va_W) [.int (nI x), .int (nI y), .int (nI z)] (some (.int (nI (fAt x y z)))) ([] : va_W) := by
  refine Fn.of (cc := cX1_cell) (nL := 3) (ret := (some .int)) (lv := [(0, .int (nI x)), (1, .int (nI y)), (2, .int (nI z))]) (by decide +kernel) rfl (Nat.le_of_ble_eq_true rfl) rfl ?_
  intro p e s_ m args below meth c A B hr hA H locs ls hz hl
  have hx := B.1.1
  have hb := B.1.2.1
  refine lv_iload_n hx hb dX1_cell_0 rfl (lv_at hl 0 rfl) ?_
  refine lv_iconst (v := (nI 5)) hx hb dX1_cell_1 (by decide) ?_
  refine ln_mul hx hb dX1_cell_2 ?_
  refine lv_iload_n hx hb dX1_cell_3 rfl (lv_at hl 1 rfl) ?_
  refine ln_add hx hb dX1_cell_4 ?_
  refine lv_bipush (v := (nI 8)) hx hb dX1_cell_5 (by decide) ?_
  refine ln_mul hx hb dX1_cell_7 ?_
  refine lv_iload_n hx hb dX1_cell_8 rfl (lv_at hl 2 rfl) ?_
  refine ln_add hx hb dX1_cell_9 ?_
  exact rz_i B hr hz dX1_cell_10 (by congr 1; unfold fAt; omega) (by rfl)
theorem hd_X1_majority : hdZ yX1_majority 3 := by decide +kernel
set_option maxRecDepth 100000 in
set_option maxHeartbeats 4000000 in
theorem c_X1_majority (l : Launch) (D : va_G) (cI cN : ClassId) (x : Int32) (y : Int32) (z : Int32) : Fn l D cI cN yX1_majority wsX1_majority 0 ([] : va_W) [.int x, .int y, .int z] (some (.int (fMaj x y z))) ([] : va_W) := by
  refine Fn.of (cc := cX1_majority) (nL := 3) (ret := (some .int)) (lv := [(0, .int x), (1, .int y), (2, .int z)]) (by decide +kernel) rfl (Nat.le_of_ble_eq_true rfl) rfl ?_
  intro p e s_ m args below meth c A B hr hA H locs ls hz hl
  have hx := B.1.1
  have hb := B.1.2.1
  refine lv_iload_n hx hb dX1_majority_0 rfl (lv_at hl 0 rfl) ?_
  refine lv_iload_n hx hb dX1_majority_1 rfl (lv_at hl 1 rfl) ?_
  refine lv_iand hx hb dX1_majority_2 ?_
  refine lv_iload_n hx hb dX1_majority_3 rfl (lv_at hl 0 rfl) ?_
  refine lv_iload_n hx hb dX1_majority_4 rfl (lv_at hl 2 rfl) ?_
  refine lv_iand hx hb dX1_majority_5 ?_
  refine lv_ior hx hb dX1_majority_6 ?_
  refine lv_iload_n hx hb dX1_majority_7 rfl (lv_at hl 1 rfl) ?_
  refine lv_iload_n hx hb dX1_majority_8 rfl (lv_at hl 2 rfl) ?_
  refine lv_iand hx hb dX1_majority_9 ?_
  refine lv_ior hx hb dX1_majority_10 ?_
  exact rz_i B hr hz dX1_majority_11 (by rfl) (by rfl)
theorem hd_X1_mix : hdZ yX1_mix 2 := by decide +kernel
set_option maxRecDepth 100000 in
set_option maxHeartbeats 4000000 in
theorem c_X1_mix (l : Launch) (D : va_G) (cI cN : ClassId) (x : Int64) (y : Int64) : Fn l D cI cN yX1_mix wsX1_mix 0 ([] : va_W) [.long x, .long y] (some (.long (31 * x + y))) ([] : va_W) := by
  refine Fn.of (cc := cX1_mix) (nL := 4) (ret := (some .long)) (lv := [(0, .long x), (2, .long y)]) (by decide +kernel) rfl (Nat.le_of_ble_eq_true rfl) rfl ?_
  intro p e s_ m args below meth c A B hr hA H locs ls hz hl
  have hx := B.1.1
  have hb := B.1.2.1
  refine ldc2z (v := 31) B (by decide +kernel) dX1_mix_0 ?_
  refine lv_lload_n hx hb dX1_mix_3 rfl (lv_at hl 0 rfl) ?_
  refine lv_lmul hx hb dX1_mix_4 ?_
  refine lv_lload_n hx hb dX1_mix_5 rfl (lv_at hl 1 rfl) ?_
  refine lv_ladd hx hb dX1_mix_6 ?_
  exact rz_l B hr hz dX1_mix_7 (by rfl) (by rfl)
theorem hd_J6_bitCount_0f7a4 : hdZ yJ6_bitCount_0f7a4 1 := by decide +kernel
set_option maxRecDepth 100000 in
set_option maxHeartbeats 4000000 in
theorem c_J6_bitCount_0f7a4 (l : Launch) (D : va_G) (cI cN : ClassId) (x : Int32) : Fn l D cI cN yJ6_bitCount_0f7a4 wsJ6_bitCount_0f7a4 0 ([] : va_W) [.int x] (some (.int (fBc x))) ([] : va_W) := by
  refine Fn.of (cc := cJ6_bitCount_0f7a4) (nL := 1) (ret := (some .int)) (lv := [(0, .int x)]) (by decide +kernel) rfl (Nat.le_of_ble_eq_true rfl) rfl ?_
  intro p e s_ m args below meth c A B hr hA H locs ls hz hl
  have hx := B.1.1
  have hb := B.1.2.1
  refine lv_iload_n hx hb dJ6_bitCount_0f7a4_0 rfl (lv_at hl 0 rfl) ?_
  refine lv_iload_n hx hb dJ6_bitCount_0f7a4_1 rfl (lv_at hl 0 rfl) ?_
  refine lv_iconst (v := (nI 1)) hx hb dJ6_bitCount_0f7a4_2 (by decide) ?_
  refine lv_iushr hx hb dJ6_bitCount_0f7a4_3 rfl ?_
  refine ldcwz (v := (nI 1431655765)) B (by decide +kernel) dJ6_bitCount_0f7a4_4 ?_
  refine lv_iand hx hb dJ6_bitCount_0f7a4_7 ?_
  refine lv_isub hx hb dJ6_bitCount_0f7a4_8 ?_
  refine lv_istore_n (lv' := [(0, .int (x - (((x.toUInt32 >>> ((nI 1).toUInt32 &&& Int32.toUInt32 31)).toInt32) &&& (nI 1431655765))))]) hx hb dJ6_bitCount_0f7a4_9 rfl hl (by decide) rfl (fun ls hl => ?_)
  refine lv_iload_n hx hb dJ6_bitCount_0f7a4_10 rfl (lv_at hl 0 rfl) ?_
  refine ldcwz (v := (nI 858993459)) B (by decide +kernel) dJ6_bitCount_0f7a4_11 ?_
  refine lv_iand hx hb dJ6_bitCount_0f7a4_14 ?_
  refine lv_iload_n hx hb dJ6_bitCount_0f7a4_15 rfl (lv_at hl 0 rfl) ?_
  refine lv_iconst (v := (nI 2)) hx hb dJ6_bitCount_0f7a4_16 (by decide) ?_
  refine lv_iushr hx hb dJ6_bitCount_0f7a4_17 rfl ?_
  refine ldcwz (v := (nI 858993459)) B (by decide +kernel) dJ6_bitCount_0f7a4_18 ?_
  refine lv_iand hx hb dJ6_bitCount_0f7a4_21 ?_
  refine lv_iadd hx hb dJ6_bitCount_0f7a4_22 ?_
  refine lv_istore_n (lv' := [(0, .int (((x - (((x.toUInt32 >>> ((nI 1).toUInt32 &&& Int32.toUInt32 31)).toInt32) &&& (nI 1431655765))) &&& (nI 858993459)) + ((((x - (((x.toUInt32 >>> ((nI 1).toUInt32 &&& Int32.toUInt32 31)).toInt32) &&& (nI 1431655765))).toUInt32 >>> ((nI 2).toUInt32 &&& Int32.toUInt32 31)).toInt32) &&& (nI 858993459))))]) hx hb dJ6_bitCount_0f7a4_23 rfl hl (by decide) rfl (fun ls hl => ?_)
  refine lv_iload_n hx hb dJ6_bitCount_0f7a4_24 rfl (lv_at hl 0 rfl) ?_
  refine lv_iload_n hx hb dJ6_bitCount_0f7a4_25 rfl (lv_at hl 0 rfl) ?_
  refine lv_iconst (v := (nI 4)) hx hb dJ6_bitCount_0f7a4_26 (by decide) ?_
  refine lv_iushr hx hb dJ6_bitCount_0f7a4_27 rfl ?_
  refine lv_iadd hx hb dJ6_bitCount_0f7a4_28 ?_
  refine ldcwz (v := (nI 252645135)) B (by decide +kernel) dJ6_bitCount_0f7a4_29 ?_
  refine lv_iand hx hb dJ6_bitCount_0f7a4_32 ?_
  refine lv_istore_n (lv' := [(0, .int (((((x - (((x.toUInt32 >>> ((nI 1).toUInt32 &&& Int32.toUInt32 31)).toInt32) &&& (nI 1431655765))) &&& (nI 858993459)) + ((((x - (((x.toUInt32 >>> ((nI 1).toUInt32 &&& Int32.toUInt32 31)).toInt32) &&& (nI 1431655765))).toUInt32 >>> ((nI 2).toUInt32 &&& Int32.toUInt32 31)).toInt32) &&& (nI 858993459))) + (((((x - (((x.toUInt32 >>> ((nI 1).toUInt32 &&& Int32.toUInt32 31)).toInt32) &&& (nI 1431655765))) &&& (nI 858993459)) + ((((x - (((x.toUInt32 >>> ((nI 1).toUInt32 &&& Int32.toUInt32 31)).toInt32) &&& (nI 1431655765))).toUInt32 >>> ((nI 2).toUInt32 &&& Int32.toUInt32 31)).toInt32) &&& (nI 858993459))).toUInt32 >>> ((nI 4).toUInt32 &&& Int32.toUInt32 31)).toInt32)) &&& (nI 252645135)))]) hx hb dJ6_bitCount_0f7a4_33 rfl hl (by decide) rfl (fun ls hl => ?_)
  refine lv_iload_n hx hb dJ6_bitCount_0f7a4_34 rfl (lv_at hl 0 rfl) ?_
  refine lv_iload_n hx hb dJ6_bitCount_0f7a4_35 rfl (lv_at hl 0 rfl) ?_
  refine lv_bipush (v := (nI 8)) hx hb dJ6_bitCount_0f7a4_36 (by decide) ?_
  refine lv_iushr hx hb dJ6_bitCount_0f7a4_38 rfl ?_
  refine lv_iadd hx hb dJ6_bitCount_0f7a4_39 ?_
  refine lv_istore_n (lv' := [(0, .int ((((((x - (((x.toUInt32 >>> ((nI 1).toUInt32 &&& Int32.toUInt32 31)).toInt32) &&& (nI 1431655765))) &&& (nI 858993459)) + ((((x - (((x.toUInt32 >>> ((nI 1).toUInt32 &&& Int32.toUInt32 31)).toInt32) &&& (nI 1431655765))).toUInt32 >>> ((nI 2).toUInt32 &&& Int32.toUInt32 31)).toInt32) &&& (nI 858993459))) + (((((x - (((x.toUInt32 >>> ((nI 1).toUInt32 &&& Int32.toUInt32 31)).toInt32) &&& (nI 1431655765))) &&& (nI 858993459)) + ((((x - (((x.toUInt32 >>> ((nI 1).toUInt32 &&& Int32.toUInt32 31)).toInt32) &&& (nI 1431655765))).toUInt32 >>> ((nI 2).toUInt32 &&& Int32.toUInt32 31)).toInt32) &&& (nI 858993459))).toUInt32 >>> ((nI 4).toUInt32 &&& Int32.toUInt32 31)).toInt32)) &&& (nI 252645135)) + (((((((x - (((x.toUInt32 >>> ((nI 1).toUInt32 &&& Int32.toUInt32 31)).toInt32) &&& (nI 1431655765))) &&& (nI 858993459)) + ((((x - (((x.toUInt32 >>> ((nI 1).toUInt32 &&& Int32.toUInt32 31)).toInt32) &&& (nI 1431655765))).toUInt32 >>> ((nI 2).toUInt32 &&& Int32.toUInt32 31)).toInt32) &&& (nI 858993459))) + (((((x - (((x.toUInt32 >>> ((nI 1).toUInt32 &&& Int32.toUInt32 31)).toInt32) &&& (nI 1431655765))) &&& (nI 858993459)) + ((((x - (((x.toUInt32 >>> ((nI 1).toUInt32 &&& Int32.toUInt32 31)).toInt32) &&& (nI 1431655765))).toUInt32 >>> ((nI 2).toUInt32 &&& Int32.toUInt32 31)).toInt32) &&& (nI 858993459))).toUInt32 >>> ((nI 4).toUInt32 &&& Int32.toUInt32 31)).toInt32)) &&& (nI 252645135)).toUInt32 >>> ((nI 8).toUInt32 &&& Int32.toUInt32 31)).toInt32)))]) hx hb dJ6_bitCount_0f7a4_40 rfl hl (by decide) rfl (fun ls hl => ?_)
  refine lv_iload_n hx hb dJ6_bitCount_0f7a4_41 rfl (lv_at hl 0 rfl) ?_
  refine lv_iload_n hx hb dJ6_bitCount_0f7a4_42 rfl (lv_at hl 0 rfl) ?_
  refine lv_bipush (v := (nI 16)) hx hb dJ6_bitCount_0f7a4_43 (by decide) ?_
  refine lv_iushr hx hb dJ6_bitCount_0f7a4_45 rfl ?_
  refine lv_iadd hx hb dJ6_bitCount_0f7a4_46 ?_
  refine lv_istore_n (lv' := [(0, .int (((((((x - (((x.toUInt32 >>> ((nI 1).toUInt32 &&& Int32.toUInt32 31)).toInt32) &&& (nI 1431655765))) &&& (nI 858993459)) + ((((x - (((x.toUInt32 >>> ((nI 1).toUInt32 &&& Int32.toUInt32 31)).toInt32) &&& (nI 1431655765))).toUInt32 >>> ((nI 2).toUInt32 &&& Int32.toUInt32 31)).toInt32) &&& (nI 858993459))) + (((((x - (((x.toUInt32 >>> ((nI 1).toUInt32 &&& Int32.toUInt32 31)).toInt32) &&& (nI 1431655765))) &&& (nI 858993459)) + ((((x - (((x.toUInt32 >>> ((nI 1).toUInt32 &&& Int32.toUInt32 31)).toInt32) &&& (nI 1431655765))).toUInt32 >>> ((nI 2).toUInt32 &&& Int32.toUInt32 31)).toInt32) &&& (nI 858993459))).toUInt32 >>> ((nI 4).toUInt32 &&& Int32.toUInt32 31)).toInt32)) &&& (nI 252645135)) + (((((((x - (((x.toUInt32 >>> ((nI 1).toUInt32 &&& Int32.toUInt32 31)).toInt32) &&& (nI 1431655765))) &&& (nI 858993459)) + ((((x - (((x.toUInt32 >>> ((nI 1).toUInt32 &&& Int32.toUInt32 31)).toInt32) &&& (nI 1431655765))).toUInt32 >>> ((nI 2).toUInt32 &&& Int32.toUInt32 31)).toInt32) &&& (nI 858993459))) + (((((x - (((x.toUInt32 >>> ((nI 1).toUInt32 &&& Int32.toUInt32 31)).toInt32) &&& (nI 1431655765))) &&& (nI 858993459)) + ((((x - (((x.toUInt32 >>> ((nI 1).toUInt32 &&& Int32.toUInt32 31)).toInt32) &&& (nI 1431655765))).toUInt32 >>> ((nI 2).toUInt32 &&& Int32.toUInt32 31)).toInt32) &&& (nI 858993459))).toUInt32 >>> ((nI 4).toUInt32 &&& Int32.toUInt32 31)).toInt32)) &&& (nI 252645135)).toUInt32 >>> ((nI 8).toUInt32 &&& Int32.toUInt32 31)).toInt32)) + ((((((((x - (((x.toUInt32 >>> ((nI 1).toUInt32 &&& Int32.toUInt32 31)).toInt32) &&& (nI 1431655765))) &&& (nI 858993459)) + ((((x - (((x.toUInt32 >>> ((nI 1).toUInt32 &&& Int32.toUInt32 31)).toInt32) &&& (nI 1431655765))).toUInt32 >>> ((nI 2).toUInt32 &&& Int32.toUInt32 31)).toInt32) &&& (nI 858993459))) + (((((x - (((x.toUInt32 >>> ((nI 1).toUInt32 &&& Int32.toUInt32 31)).toInt32) &&& (nI 1431655765))) &&& (nI 858993459)) + ((((x - (((x.toUInt32 >>> ((nI 1).toUInt32 &&& Int32.toUInt32 31)).toInt32) &&& (nI 1431655765))).toUInt32 >>> ((nI 2).toUInt32 &&& Int32.toUInt32 31)).toInt32) &&& (nI 858993459))).toUInt32 >>> ((nI 4).toUInt32 &&& Int32.toUInt32 31)).toInt32)) &&& (nI 252645135)) + (((((((x - (((x.toUInt32 >>> ((nI 1).toUInt32 &&& Int32.toUInt32 31)).toInt32) &&& (nI 1431655765))) &&& (nI 858993459)) + ((((x - (((x.toUInt32 >>> ((nI 1).toUInt32 &&& Int32.toUInt32 31)).toInt32) &&& (nI 1431655765))).toUInt32 >>> ((nI 2).toUInt32 &&& Int32.toUInt32 31)).toInt32) &&& (nI 858993459))) + (((((x - (((x.toUInt32 >>> ((nI 1).toUInt32 &&& Int32.toUInt32 31)).toInt32) &&& (nI 1431655765))) &&& (nI 858993459)) + ((((x - (((x.toUInt32 >>> ((nI 1).toUInt32 &&& Int32.toUInt32 31)).toInt32) &&& (nI 1431655765))).toUInt32 >>> ((nI 2).toUInt32 &&& Int32.toUInt32 31)).toInt32) &&& (nI 858993459))).toUInt32 >>> ((nI 4).toUInt32 &&& Int32.toUInt32 31)).toInt32)) &&& (nI 252645135)).toUInt32 >>> ((nI 8).toUInt32 &&& Int32.toUInt32 31)).toInt32)).toUInt32 >>> ((nI 16).toUInt32 &&& Int32.toUInt32 31)).toInt32)))]) hx hb dJ6_bitCount_0f7a4_47 rfl hl (by decide) rfl (fun ls hl => ?_)
  refine lv_iload_n hx hb dJ6_bitCount_0f7a4_48 rfl (lv_at hl 0 rfl) ?_
  refine lv_bipush (v := (nI 63)) hx hb dJ6_bitCount_0f7a4_49 (by decide) ?_
  refine lv_iand hx hb dJ6_bitCount_0f7a4_51 ?_
  exact rz_i B hr hz dJ6_bitCount_0f7a4_52 (by rfl) (by rfl)
end
section
/-! one word transmitted, three times -/
def fT1 (w q : Int32) (s : Sz) : Int32 × Sz := fCp w q 24 s
def fT2 (w q : Int32) (s : Sz) : Int32 × Sz := fCp w q 24 (fT1 w q s).2
def fT3 (w q : Int32) (s : Sz) : Int32 × Sz := fCp w q 24 (fT2 w q s).2
def fTv (w q : Int32) (s : Sz) : Int32 := fMaj (fT1 w q s).1 (fT2 w q s).1 (fT3 w q s).1
def fTd (w q : Int32) (s : Sz) : Int32 := ((fT1 w q s).1 ^^^ (fT2 w q s).1) ||| ((fT1 w q s).1 ^^^ (fT3 w q s).1)
def fTu (w q : Int32) (s : Sz) : Nat := fUn (fTd w q s) 24
def fTx (w q : Int32) (s : Sz) : Sz := upd (upd (upd (fT3 w q s).2 3 ((fT3 w q s).2 3 + nI 1)) 7 (nI (fTu w q s))) 8 (fTv w q s)
def fTw (kd f mt : Nat) : Nat := 65536 * kd + 256 * mt + f
def fTy (w q : Int32) (f t ch : Nat) (s : Sz) : Sz := upd (upd (upd (fTx w q s) 4 (fTx w q s 4 + nI 1)) (224 + fAt t f ch) (nI (fTu w q s * 30) / nI 24)) (424 + fAt t f ch) ((upd (upd (fTx w q s) 4 (fTx w q s 4 + nI 1)) (224 + fAt t f ch) (nI (fTu w q s * 30) / nI 24)) 0)
def fTr (kd f t mt ch : Nat) (s : Sz) : Bool × Sz :=
  if fTv (nI (fTw kd f mt)) (s (24 + fAt f t ch)) s = nI (fTw kd f mt) then (true, fTy (nI (fTw kd f mt)) (s (24 + fAt f t ch)) f t ch s) else (false, fTx (nI (fTw kd f mt)) (s (24 + fAt f t ch)) s)
theorem fTr_t {kd f t mt ch : Nat} {s : Sz} (h : fTv (nI (fTw kd f mt)) (s (24 + fAt f t ch)) s = nI (fTw kd f mt)) : fTr kd f t mt ch s = (true, fTy (nI (fTw kd f mt)) (s (24 + fAt f t ch)) f t ch s) := if_pos h
theorem fTr_f {kd f t mt ch : Nat} {s : Sz} (h : ¬ fTv (nI (fTw kd f mt)) (s (24 + fAt f t ch)) s = nI (fTw kd f mt)) : fTr kd f t mt ch s = (false, fTx (nI (fTw kd f mt)) (s (24 + fAt f t ch)) s) := if_neg h
theorem upd_comm (s : Sz) {i j : Nat} (h : i ≠ j) (x y : Int32) : upd (upd s i x) j y = upd (upd s j y) i x := by
  funext k
  unfold upd
  by_cases h1 : k = j
  · have : ¬ k = i := by omega
    simp [h1, this]
    intro h2; omega
  · simp [h1]
theorem upd_same (s : Sz) (i : Nat) (x y : Int32) : upd (upd s i x) i y = upd s i y := by
  funext k
  unfold upd
  by_cases h1 : k = i <;> simp [h1]
theorem fTs_nn {w q : Int32} {s : Sz} (h : fNn s) : fNn (fT1 w q s).2 ∧ fNn (fT2 w q s).2 ∧ fNn (fT3 w q s).2 := ⟨fCp_nn _ _ _ _ h, fCp_nn _ _ _ _ (fCp_nn _ _ _ _ h), fCp_nn _ _ _ _ (fCp_nn _ _ _ _ (fCp_nn _ _ _ _ h))⟩
theorem fT3_out (w q : Int32) (s : Sz) {j : Nat} (hj : j ≠ 1) : (fT3 w q s).2 j = s j := by
  unfold fT3 fT2 fT1
  rw [fCp_out w q j hj, fCp_out w q j hj, fCp_out w q j hj]
/-- bits: a copy differs from the word in the 24 low bits alone -/
theorem fCp_bit (w q : Int32) {j : Nat} (h1 : 24 ≤ j) (h2 : j < 32) : ∀ i s, i ≤ 24 → bt (fCp w q i s).1 j = bt w j
  | 0, s, _ => rfl
  | i + 1, s, hi => by
    have ih := fCp_bit w q h1 h2 i s (by omega)
    simp only [fCp]
    split
    · exact ih
    · have hd : ¬ j - i = 0 := by omega
      rw [b_xor, b_shl i (by omega) _ h2, bt_1, ih]
      simp [hd]
theorem fTd_hi (w q : Int32) (s : Sz) {j : Nat} (h1 : 24 ≤ j) (h2 : j < 32) : bt (fTd w q s) j = false := by
  unfold fTd fT3 fT2 fT1
  rw [b_or, b_xor, b_xor, fCp_bit w q h1 h2 24 _ (Nat.le_refl _), fCp_bit w q h1 h2 24 _ (Nat.le_refl _), fCp_bit w q h1 h2 24 _ (Nat.le_refl _)]
  simp
/-! the JDK's bit count is the number of bits -/
def pcn (u : Int32) : Nat → Nat
  | 0 => 0
  | i + 1 => pcn u i + (bt u i).toNat
theorem fUn_pc (u : Int32) : ∀ i, i ≤ 32 → fUn u i + pcn u i = i
  | 0, _ => rfl
  | i + 1, h => by
    have ih := fUn_pc u i (by omega)
    simp only [fUn, pcn]
    rw [fHas_bt u (show i < 32 by omega)]
    cases bt u i <;> simp <;> omega
theorem nat_split (k a b c d : Nat) (hb : b < 2 ^ k) (hd : d < 2 ^ k) : (2 ^ k * a + b) &&& (2 ^ k * c + d) = 2 ^ k * (a &&& c) + (b &&& d) := by
  apply Nat.eq_of_testBit_eq
  intro j
  rw [Nat.testBit_and, Nat.testBit_two_pow_mul_add a hb, Nat.testBit_two_pow_mul_add c hd, Nat.testBit_two_pow_mul_add _ (Nat.and_lt_two_pow _ hd)]
  split
  · rw [Nat.testBit_and]
  · rw [Nat.testBit_and]
def bp1 (M n : Nat) : Nat := n - (n / 2 &&& M)
def bp2 (M n : Nat) : Nat := (n &&& M) + (n / 4 &&& M)
def bp3 (M n : Nat) : Nat := n + n / 16 &&& M
theorem bp1_le (M n : Nat) : bp1 M n ≤ n := Nat.sub_le _ _
theorem and_le_l (a b : Nat) : a &&& b ≤ a := Nat.and_le_left
theorem bq1 : ∀ e, e < 2 → ∀ l, l < 128 → (128 * e + l) &&& 85 = l &&& 85 := by decide +kernel
theorem bq2 : ∀ e, e < 4 → ∀ l, l < 64 → (64 * e + l) &&& 51 = l &&& 51 := by decide +kernel
theorem bp1_s (M h l : Nat) (hl : l < 256) : bp1 (2 ^ 8 * M + 85) (2 ^ 8 * h + l) = 2 ^ 8 * bp1 M h + bp1 85 l := by
  unfold bp1
  have e : (2 ^ 8 * h + l) / 2 = 2 ^ 8 * (h / 2) + (128 * (h % 2) + l / 2) := by omega
  rw [e, nat_split 8 _ _ _ _ (by omega) (by decide), bq1 _ (by omega) _ (by omega)]
  have h1 := and_le_l (h / 2) M
  have h2 := and_le_l (l / 2) 85
  omega
theorem bp2_s (M h l : Nat) (hl : l < 256) : bp2 (2 ^ 8 * M + 51) (2 ^ 8 * h + l) = 2 ^ 8 * bp2 M h + bp2 51 l := by
  unfold bp2
  have e : (2 ^ 8 * h + l) / 4 = 2 ^ 8 * (h / 4) + (64 * (h % 4) + l / 4) := by omega
  rw [e, nat_split 8 _ _ _ _ (by omega) (by decide), nat_split 8 _ _ _ _ (by omega) (by decide), bq2 _ (by omega) _ (by omega)]
  omega
theorem bp3_s (M h l : Nat) (hh : h % 16 ≤ 4) (hl : l ≤ 68) : bp3 (2 ^ 8 * M + 15) (2 ^ 8 * h + l) = 2 ^ 8 * bp3 M h + bp3 15 l := by
  unfold bp3
  have e : 2 ^ 8 * h + l + (2 ^ 8 * h + l) / 16 = 2 ^ 8 * (h + h / 16) + (l + l / 16 + 16 * (h % 16)) := by omega
  rw [e, nat_split 8 _ _ _ _ (by omega) (by decide)]
  have a1 := Nat.and_two_pow_sub_one_eq_mod (l + l / 16 + 16 * (h % 16)) 4
  have a2 := Nat.and_two_pow_sub_one_eq_mod (l + l / 16) 4
  rw [show (15 : Nat) = 2 ^ 4 - 1 from rfl, a1, a2]
  omega
def pcN (n : Nat) : Nat → Nat
  | 0 => 0
  | i + 1 => pcN n i + (n.testBit i).toNat
theorem pcN_s (h l : Nat) (hl : l < 2 ^ 8) : ∀ k, pcN (2 ^ 8 * h + l) (8 + k) = pcN (2 ^ 8 * h + l) 8 + pcN h k
  | 0 => rfl
  | k + 1 => by
    show pcN (2 ^ 8 * h + l) (8 + k) + ((2 ^ 8 * h + l).testBit (8 + k)).toNat = _ + (pcN h k + (h.testBit k).toNat)
    rw [pcN_s h l hl k, Nat.testBit_two_pow_mul_add h hl, if_neg (by omega), show 8 + k - 8 = k by omega]
    omega
theorem pcN_l (h l : Nat) (hl : l < 2 ^ 8) : ∀ k, k ≤ 8 → pcN (2 ^ 8 * h + l) k = pcN l k
  | 0, _ => rfl
  | k + 1, hk => by
    show pcN _ k + ((2 ^ 8 * h + l).testBit k).toNat = pcN l k + (l.testBit k).toNat
    rw [pcN_l h l hl k (by omega), Nat.testBit_two_pow_mul_add h hl, if_pos (by omega)]
theorem byte_ok : ∀ l, l < 256 → bp3 15 (bp2 51 (bp1 85 l)) = pcN l 8 ∧ bp2 51 (bp1 85 l) ≤ 68 ∧ bp2 51 (bp1 85 l) % 16 ≤ 4 ∧ pcN l 8 ≤ 8 ∧ bp1 85 l < 256 := by decide +kernel
theorem pc_bytes (b0 b1 b2 b3 : Nat) (h0 : b0 < 256) (h1 : b1 < 256) (h2 : b2 < 256) (h3 : b3 < 256) : pcN (2 ^ 8 * (2 ^ 8 * (2 ^ 8 * b3 + b2) + b1) + b0) 32 = pcN b0 8 + (pcN b1 8 + (pcN b2 8 + pcN b3 8)) := by
  rw [show (32 : Nat) = 8 + 24 from rfl, pcN_s _ _ h0, pcN_l _ _ h0 8 (by omega), show (24 : Nat) = 8 + 16 from rfl, pcN_s _ _ h1, pcN_l _ _ h1 8 (by omega), show (16 : Nat) = 8 + 8 from rfl, pcN_s _ _ h2, pcN_l _ _ h2 8 (by omega)]
theorem xor0 (x : Int32) : x ^^^ nI 0 = x := by
  apply b_ext
  intro i hi
  rw [b_xor, show bt (nI 0) i = false from b_0 i]
  simp
theorem nI_self (x : Int32) : ∃ n, n < 2 ^ 32 ∧ x = nI n := ⟨x.toBitVec.toNat, x.toBitVec.isLt, Int32.toBitVec_inj.mp (by show x.toBitVec = BitVec.ofNat 32 x.toBitVec.toNat; rw [BitVec.ofNat_toNat]; simp)⟩
theorem bt_nI (n : Nat) {i : Nat} (hi : i < 32) : bt (nI n) i = n.testBit i := by
  show (BitVec.ofNat 32 n).getLsbD i = _
  rw [BitVec.getLsbD_ofNat]
  simp [hi]
theorem pcn_N (n : Nat) : ∀ i, i ≤ 32 → pcn (nI n) i = pcN n i
  | 0, _ => rfl
  | i + 1, h => by
    simp only [pcn, pcN]
    rw [pcn_N n i (by omega), bt_nI n (by omega)]
theorem fin_sum (N3 c0 c1 c2 c3 : Nat) (h0 : c0 ≤ 8) (h1 : c1 ≤ 8) (h2 : c2 ≤ 8) (h3 : c3 ≤ 8) (e : N3 = 2 ^ 8 * (2 ^ 8 * (2 ^ 8 * c3 + c2) + c1) + c0) : (N3 + N3 / 256 + (N3 + N3 / 256) / 65536) % 64 = c0 + (c1 + (c2 + c3)) := by
  have e1 : N3 / 256 = 2 ^ 8 * (2 ^ 8 * c3 + c2) + c1 := by omega
  have e2 : N3 + N3 / 256 = 65536 * (256 * c3 + (c2 + c3)) + (256 * (c1 + c2) + (c0 + c1)) := by omega
  have e3 : (N3 + N3 / 256) / 65536 = 256 * c3 + (c2 + c3) := by omega
  omega
theorem fBc_N (n : Nat) (hn : n < 2 ^ 32) : fBc (nI n) = nI (pcN n 32) := by
  obtain ⟨b0, b1, b2, b3, h0, h1, h2, h3, rfl⟩ : ∃ b0 b1 b2 b3, b0 < 256 ∧ b1 < 256 ∧ b2 < 256 ∧ b3 < 256 ∧ n = 2 ^ 8 * (2 ^ 8 * (2 ^ 8 * b3 + b2) + b1) + b0 :=
    ⟨n % 256, n / 256 % 256, n / 65536 % 256, n / 16777216, by omega, by omega, by omega, by omega, by omega⟩
  obtain ⟨p0, q0, r0, t0, u0⟩ := byte_ok b0 h0
  obtain ⟨p1, q1, r1, t1, u1⟩ := byte_ok b1 h1
  obtain ⟨p2, q2, r2, t2, u2⟩ := byte_ok b2 h2
  obtain ⟨p3, q3, r3, t3, u3⟩ := byte_ok b3 h3
  generalize hN : 2 ^ 8 * (2 ^ 8 * (2 ^ 8 * b3 + b2) + b1) + b0 = N at hn ⊢
  have e1 : bp1 1431655765 N = 2 ^ 8 * (2 ^ 8 * (2 ^ 8 * bp1 85 b3 + bp1 85 b2) + bp1 85 b1) + bp1 85 b0 := by
    rw [← hN, show (1431655765 : Nat) = 2 ^ 8 * (2 ^ 8 * (2 ^ 8 * 85 + 85) + 85) + 85 from rfl, bp1_s _ _ _ h0, bp1_s _ _ _ h1, bp1_s _ _ _ h2]
  generalize hN1 : bp1 1431655765 N = N1 at e1
  have e2 : bp2 858993459 N1 = 2 ^ 8 * (2 ^ 8 * (2 ^ 8 * bp2 51 (bp1 85 b3) + bp2 51 (bp1 85 b2)) + bp2 51 (bp1 85 b1)) + bp2 51 (bp1 85 b0) := by
    rw [e1, show (858993459 : Nat) = 2 ^ 8 * (2 ^ 8 * (2 ^ 8 * 51 + 51) + 51) + 51 from rfl, bp2_s _ _ _ u0, bp2_s _ _ _ u1, bp2_s _ _ _ u2]
  generalize hN2 : bp2 858993459 N1 = N2 at e2
  have e3 : bp3 252645135 N2 = 2 ^ 8 * (2 ^ 8 * (2 ^ 8 * pcN b3 8 + pcN b2 8) + pcN b1 8) + pcN b0 8 := by
    rw [e2, show (252645135 : Nat) = 2 ^ 8 * (2 ^ 8 * (2 ^ 8 * 15 + 15) + 15) + 15 from rfl, bp3_s _ _ _ (by omega) q0, bp3_s _ _ _ (by omega) q1, bp3_s _ _ _ (by omega) q2, p0, p1, p2, p3]
  generalize hN3 : bp3 252645135 N2 = N3 at e3
  have l1 : N1 < 2 ^ 32 := by have := bp1_le 1431655765 N; omega
  have l2 : N2 < 2 ^ 32 := by omega
  have a1 : N - (N / 2 &&& 1431655765) = N1 := hN1
  have a2 : (N1 &&& 858993459) + (N1 / 4 &&& 858993459) = N2 := hN2
  have a3 : N2 + N2 / 16 &&& 252645135 = N3 := hN3
  have hle := Nat.le_trans (and_le_l (N / 2) 1431655765) (Nat.div_le_self N 2)
  have hpc := pc_bytes b0 b1 b2 b3 h0 h1 h2 h3
  rw [hN] at hpc
  unfold fBc
  simp only []
  rw [pk_ushrN hn (nI 1) 1 (by decide), show (2 : Nat) ^ 1 = 2 from rfl, nx_and, pk_sub hle, a1,
    pk_ushrN l1 (nI 2) 2 (by decide), show (2 : Nat) ^ 2 = 4 from rfl, nx_and, nx_and, nI_add, a2,
    pk_ushrN l2 (nI 4) 4 (by decide), show (2 : Nat) ^ 4 = 16 from rfl, nI_add, nx_and, a3,
    pk_ushrN (show N3 < 2 ^ 32 by omega) (nI 8) 8 (by decide), show (2 : Nat) ^ 8 = 256 from rfl, nI_add,
    pk_ushrN (show N3 + N3 / 256 < 2 ^ 32 by omega) (nI 16) 16 (by decide), show (2 : Nat) ^ 16 = 65536 from rfl, nI_add, nx_and, show (63 : Nat) = 2 ^ 6 - 1 from rfl, Nat.and_two_pow_sub_one_eq_mod]
  refine congrArg nI ?_
  rw [hpc]
  exact fin_sum N3 _ _ _ _ t0 t1 t2 t3 e3
theorem pcn_hi {u : Int32} (h : ∀ j, 24 ≤ j → j < 32 → bt u j = false) : ∀ k, k ≤ 8 → pcn u (24 + k) = pcn u 24
  | 0, _ => rfl
  | k + 1, hk => by
    show pcn u (24 + k) + (bt u (24 + k)).toNat = _
    rw [pcn_hi h k (by omega), h _ (by omega) (by omega)]
    rfl
theorem fBc_un {u : Int32} (h : ∀ j, 24 ≤ j → j < 32 → bt u j = false) : nI 24 - fBc u = nI (fUn u 24) := by
  obtain ⟨n, hn, e⟩ := nI_self u
  have h1 := fUn_pc u 24 (by omega)
  have h2 := pcn_hi h 8 (Nat.le_refl _)
  have h3 := pcn_N n 32 (Nat.le_refl _)
  rw [← e] at h3
  have h4 : fBc u = nI (pcN n 32) := by rw [e]; exact fBc_N n hn
  rw [h4, ← h3, h2, pk_sub (by omega)]
  refine congrArg nI ?_
  omega
theorem xUn (w q : Int32) (s : Sz) : nI 24 - fBc (fTd w q s) = nI (fTu w q s) := fBc_un (fun _ h1 h2 => fTd_hi w q s h1 h2)
end
section
theorem hd_X2_draw : hdZ yX2_draw 0 := by decide +kernel
set_option maxRecDepth 100000 in
set_option maxHeartbeats 4000000 in
theorem c_X2_draw (l : Launch) (D : va_G) (cI cN : ClassId) (a : Nat → Nat) (s : Sz) (pst : Sz) (np : Nat) (er : Sz) (od : Sz) (rk : Sz) (hs : Int64) (hn : fNn s) : Fn l D cI cN yX2_draw wsX2_draw 0 (mW cI a s pst np er od rk hs) [.ref (a 0)] (some (.int (fDv (fDx (s 1))))) (mW cI a (upd s 1 (fDx (s 1))) pst np er od rk hs) := by
  refine Fn.of (cc := cX2_draw) (nL := 3) (ret := (some .int)) (lv := [(0, .ref (a 0))]) (by decide +kernel) rfl (Nat.le_of_ble_eq_true rfl) rfl ?_
  intro p e s_ m args below meth c A B hr hA H locs ls hz hl
  have hx := B.1.1
  have hb := B.1.2.1
  have hinX2 : ∀ w ∈ u_ws RX2 TX2 7, w ∈ wsX2_draw := by decide +kernel
  have lk7 : Cond.fieldLink yX2_draw.cls 7 RX2 (TX2 0).2.1 (TX2 0).2.2.1 ∈ wsX2_draw := by decide +kernel
  refine lv_aload_n hx hb dX2_draw_0 rfl (lv_at hl 0 rfl) ?_
  refine gz (C := RX2) (T := TX2) (N := 7) (v := .ref (a 1)) B hz hinX2 0 rfl rfl 0 (by decide) lk7 rfl rfl dX2_draw_1 ?_
  refine lv_iconst (v := (nI 1)) hx hb dX2_draw_4 (by decide) ?_
  refine ildz (n := 624) (j := 1) (v := (s 1)) B hz 1 rfl (by omega) (by decide) rfl dX2_draw_5 ?_
  refine lv_i2l hx hb dX2_draw_6 rfl ?_
  refine ldc2z (v := 1103515245) B (by decide +kernel) dX2_draw_7 ?_
  refine lv_lmul hx hb dX2_draw_10 ?_
  refine ldc2z (v := 12345) B (by decide +kernel) dX2_draw_11 ?_
  refine lv_ladd hx hb dX2_draw_14 ?_
  refine ldc2z (v := 2147483648) B (by decide +kernel) dX2_draw_15 ?_
  refine lv_lrem hx hb dX2_draw_18 (by decide) ?_
  refine lv_lstore_n (lv' := [(1, .long (((((s 1).toInt64) * 1103515245) + 12345) - ((((s 1).toInt64) * 1103515245) + 12345) / 2147483648 * 2147483648)), (0, .ref (a 0))]) hx hb dX2_draw_19 rfl hl (by decide) rfl (fun ls hl => ?_)
  refine lv_aload_n hx hb dX2_draw_20 rfl (lv_at hl 1 rfl) ?_
  refine gz (C := RX2) (T := TX2) (N := 7) (v := .ref (a 1)) B hz hinX2 0 rfl rfl 0 (by decide) lk7 rfl rfl dX2_draw_21 ?_
  refine lv_iconst (v := (nI 1)) hx hb dX2_draw_24 (by decide) ?_
  refine lv_lload_n hx hb dX2_draw_25 rfl (lv_at hl 0 rfl) ?_
  refine lv_l2i hx hb dX2_draw_26 rfl ?_
  refine istz (n := 624) (j := 1) (ws1 := (mW cI a (upd s 1 ((((((s 1).toInt64) * 1103515245) + 12345) - ((((s 1).toInt64) * 1103515245) + 12345) / 2147483648 * 2147483648).toInt32)) pst np er od rk hs)) B hz 1 rfl (by omega) (by decide) rfl dX2_draw_27 (fun H locs hz => ?_)
  refine lv_aload_n hx hb dX2_draw_28 rfl (lv_at hl 1 rfl) ?_
  refine gz (C := RX2) (T := TX2) (N := 7) (v := .ref (a 1)) B hz hinX2 0 rfl rfl 0 (by decide) lk7 rfl rfl dX2_draw_29 ?_
  refine lv_iconst (v := (nI 1)) hx hb dX2_draw_32 (by decide) ?_
  refine ildz (n := 624) (j := 1) (v := ((upd s 1 ((((((s 1).toInt64) * 1103515245) + 12345) - ((((s 1).toInt64) * 1103515245) + 12345) / 2147483648 * 2147483648).toInt32)) 1)) B hz 1 rfl (by omega) (by decide) rfl dX2_draw_33 ?_
  refine ldcz (v := (nI 65536)) B (by decide +kernel) dX2_draw_34 ?_
  refine lv_idiv hx hb dX2_draw_36 (by decide) ?_
  refine lv_bipush (v := (nI 31)) hx hb dX2_draw_37 (by decide) ?_
  refine lv_irem hx hb dX2_draw_39 (by decide) ?_
  exact rz_i B hr hz dX2_draw_40 (by rw [pk_us, ← fDl_eq hn]; rfl) (by rw [← fDl_eq hn]; rfl)
theorem hd_X2_copyOf : hdZ yX2_copyOf 2 := by decide +kernel
set_option maxRecDepth 100000 in
set_option maxHeartbeats 4000000 in
theorem c_X2_copyOf (l : Launch) (D : va_G) (cI cN : ClassId) (a : Nat → Nat) (s : Sz) (pst : Sz) (np : Nat) (er : Sz) (od : Sz) (rk : Sz) (hs : Int64) (w : Int32) (q : Int32) (hn : fNn s) : Fn l D cI cN yX2_copyOf wsX2_copyOf 1 (mW cI a s pst np er od rk hs) [.ref (a 0), .int w, .int q] (some (.int ((fCp w q 24 s).1))) (mW cI a ((fCp w q 24 s).2) pst np er od rk hs) := by
  refine Fn.of (cc := cX2_copyOf) (nL := 5) (ret := (some .int)) (lv := [(0, .ref (a 0)), (1, .int w), (2, .int q)]) (by decide +kernel) rfl (Nat.le_of_ble_eq_true rfl) rfl ?_
  intro p e s_ m args below meth c A B hr hA H locs ls hz hl
  have hx := B.1.1
  have hb := B.1.2.1
  refine lv_iload_n hx hb dX2_copyOf_0 rfl (lv_at hl 1 rfl) ?_
  refine lv_istore_n (lv' := [(3, .int w), (0, .ref (a 0)), (1, .int w), (2, .int q)]) hx hb dX2_copyOf_1 rfl hl (by decide) rfl (fun ls hl => ?_)
  refine lv_iconst (v := (nI 0)) hx hb dX2_copyOf_2 (by decide) ?_
  refine lv_istore (lv' := [(4, .int (nI 0)), (3, .int w), (0, .ref (a 0)), (1, .int w), (2, .int q)]) hx hb dX2_copyOf_3 hl (by decide) rfl (fun ls hl => ?_)
  have LP : ∀ (n_LP : Nat) (i : Nat), i ≤ 24 → 24 - i < n_LP → ∀ (H : Heap) (locs : List Loc) (ls : Array Slot), Hz D A s_.heap H locs (mW cI a ((fCp w q i s).2) pst np er od rk hs) → lv_has ls 5 [(0, .ref (a 0)), (1, .int w), (2, .int q), (3, .int ((fCp w q i s).1)), (4, .int (nI i))] → Wz p l e 1 s_ m args below meth c D A (some (.int ((fCp w q 24 s).1))) (mW cI a ((fCp w q 24 s).2) pst np er od rk hs) H locs (F0 m 5 ls []) := by
    intro n_LP
    induction n_LP with
    | zero => intro i hi hm; exact absurd hm (Nat.not_lt_zero _)
    | succ n_LP ih_LP =>
      intro i hi hm H locs ls hz hl
      refine lv_iload hx hb dX2_copyOf_5 (lv_at hl 4 rfl) ?_
      refine lv_bipush (v := (nI 24)) hx hb dX2_copyOf_7 (by decide) ?_
      refine ln_icmp_ge (tgt := 42) hx hb dX2_copyOf_9 (by decide) (by constructor <;> omega) (fun c9 => ?_) (fun c9 => ?_)
      · refine lv_iload_n hx hb dX2_copyOf_42 rfl (lv_at hl 3 rfl) ?_
        exact rz_i B hr hz dX2_copyOf_43 (by rw [show i = 24 by omega]) (by rw [show i = 24 by omega])
      · refine lv_iload_n hx hb dX2_copyOf_12 rfl (lv_at hl 3 rfl) ?_
        refine lv_iconst (v := (nI 2)) hx hb dX2_copyOf_13 (by decide) ?_
        refine lv_aload_n hx hb dX2_copyOf_14 rfl (lv_at hl 0 rfl) ?_
        refine cV (C := RX2) (T := TX2) (N := 7) (ci := 2) (q0 := 0) (k := 1) (As := []) (rest := [.int (nI 2), .int ((fCp w q i s).1)]) (v := .int (fDv (fDx (((fCp w q i s).2) 1)))) (ws1 := (mW cI a (upd ((fCp w q i s).2) 1 (fDx (((fCp w q i s).2) 1))) pst np er od rk hs)) B hz hA (c_X2_draw l D cI cN a ((fCp w q i s).2) pst np er od rk hs  (fCp_nn w q i s hn)) gX2_copyOf_X2_draw rfl rfl hd_X2_draw (by decide) rfl rfl rfl hl.1 rfl (Nat.le_of_ble_eq_true rfl) dX2_copyOf_15 (fun H locs hz => ?_)
        refine lv_imul hx hb dX2_copyOf_18 ?_
        refine lv_bipush (v := (nI 30)) hx hb dX2_copyOf_19 (by decide) ?_
        refine lv_iload_n hx hb dX2_copyOf_21 rfl (lv_at hl 2 rfl) ?_
        refine lv_iadd hx hb dX2_copyOf_22 ?_
        refine lv_icmp_le (tgt := 33) hx hb dX2_copyOf_23 (by decide) (fun c23 => ?_) (fun c23 => ?_)
        · refine lv_iconst (v := (nI 0)) hx hb dX2_copyOf_33 (by decide) ?_
          refine lv_ixor hx hb dX2_copyOf_34 ?_
          refine lv_istore_n (lv' := [(3, .int (((fCp w q i s).1) ^^^ (nI 0))), (0, .ref (a 0)), (1, .int w), (2, .int q), (4, .int (nI i))]) hx hb dX2_copyOf_35 rfl hl (by decide) rfl (fun ls hl => ?_)
          refine lv_iinc (v := nI (i + 1)) (lv' := [(4, .int (nI (i + 1))), (3, .int (((fCp w q i s).1) ^^^ (nI 0))), (0, .ref (a 0)), (1, .int w), (2, .int q)]) hx hb dX2_copyOf_36 hl (k := 4) rfl (nI_add i 1) (by decide) rfl (fun ls hl => ?_)
          refine lv_goto (tgt := 5) hx hb dX2_copyOf_39 (by decide) ?_
          exact ih_LP (i + 1) (by omega) (by omega) H locs ls (hz.cast (by rfl)) (lv_cast (lv_sub hl [2, 3, 4, 1, 0] (l' := [(0, .ref (a 0)), (1, .int w), (2, .int q), (3, .int (((fCp w q i s).1) ^^^ (nI 0))), (4, .int (nI (i + 1)))]) rfl) (by first | (simp only [fCp, if_pos c23, xor0]; done) | (simp only [fCp, if_neg c23]; done)))
        · refine lv_iconst (v := (nI 1)) hx hb dX2_copyOf_26 (by decide) ?_
          refine lv_iload hx hb dX2_copyOf_27 (lv_at hl 4 rfl) ?_
          refine lv_ishl hx hb dX2_copyOf_29 ?_
          refine lv_goto (tgt := 34) hx hb dX2_copyOf_30 (by decide) ?_
          refine lv_ixor hx hb dX2_copyOf_34 ?_
          refine lv_istore_n (lv' := [(3, .int (((fCp w q i s).1) ^^^ ((nI 1) <<< ((nI i) &&& 31)))), (0, .ref (a 0)), (1, .int w), (2, .int q), (4, .int (nI i))]) hx hb dX2_copyOf_35 rfl hl (by decide) rfl (fun ls hl => ?_)
          refine lv_iinc (v := nI (i + 1)) (lv' := [(4, .int (nI (i + 1))), (3, .int (((fCp w q i s).1) ^^^ ((nI 1) <<< ((nI i) &&& 31)))), (0, .ref (a 0)), (1, .int w), (2, .int q)]) hx hb dX2_copyOf_36 hl (k := 4) rfl (nI_add i 1) (by decide) rfl (fun ls hl => ?_)
          refine lv_goto (tgt := 5) hx hb dX2_copyOf_39 (by decide) ?_
          exact ih_LP (i + 1) (by omega) (by omega) H locs ls (hz.cast (by rfl)) (lv_cast (lv_sub hl [2, 3, 4, 1, 0] (l' := [(0, .ref (a 0)), (1, .int w), (2, .int q), (3, .int (((fCp w q i s).1) ^^^ ((nI 1) <<< ((nI i) &&& 31)))), (4, .int (nI (i + 1)))]) rfl) (by first | (simp only [fCp, if_pos c23, xor0]; done) | (simp only [fCp, if_neg c23]; done)))
  exact LP _ 0 (by omega) (Nat.lt_succ_self _) H locs ls (hz.cast (by rfl)) (lv_cast (lv_sub hl [2, 3, 4, 1, 0] (l' := [(0, .ref (a 0)), (1, .int w), (2, .int q), (3, .int w), (4, .int (nI 0))]) rfl) (by rfl))
theorem hd_X0_drawNoise : hdZ yX0_drawNoise 0 := by decide +kernel
set_option maxRecDepth 100000 in
set_option maxHeartbeats 4000000 in
theorem c_X0_drawNoise (l : Launch) (D : va_G) (cI cN : ClassId) (a : Nat → Nat) (s : Sz) (rk : Sz) : Fn l D cI cN yX0_drawNoise wsX0_drawNoise 0 (nW cI a s rk) [.ref (a 0)] (some (.int (fDv (fDx (s 1))))) (nW cI a (upd s 1 (fDx (s 1))) rk) := by
  refine Fn.of (cc := cX0_drawNoise) (nL := 1) (ret := (some .int)) (lv := [(0, .ref (a 0))]) (by decide +kernel) rfl (Nat.le_of_ble_eq_true rfl) rfl ?_
  intro p e s_ m args below meth c A B hr hA H locs ls hz hl
  have hx := B.1.1
  have hb := B.1.2.1
  have hinX0 : ∀ w ∈ u_ws RX0 TX0 16, w ∈ wsX0_drawNoise := by decide +kernel
  have lk15 : Cond.fieldLink yX0_drawNoise.cls 15 RX0 (TX0 2).2.1 (TX0 2).2.2.1 ∈ wsX0_drawNoise := by decide +kernel
  refine lv_aload_n hx hb dX0_drawNoise_0 rfl (lv_at hl 0 rfl) ?_
  refine lv_aload_n hx hb dX0_drawNoise_1 rfl (lv_at hl 0 rfl) ?_
  refine gz (C := RX0) (T := TX0) (N := 16) (v := .int (s 1)) B hz hinX0 0 rfl rfl 2 (by decide) lk15 rfl rfl dX0_drawNoise_2 ?_
  refine ldcz (v := (nI 1103515245)) B (by decide +kernel) dX0_drawNoise_5 ?_
  refine lv_imul hx hb dX0_drawNoise_7 ?_
  refine lv_sipush (v := (nI 12345)) hx hb dX0_drawNoise_8 (by decide) ?_
  refine lv_iadd hx hb dX0_drawNoise_11 ?_
  refine ldcz (v := (nI 2147483647)) B (by decide +kernel) dX0_drawNoise_12 ?_
  refine lv_iand hx hb dX0_drawNoise_14 ?_
  refine pz (C := RX0) (T := TX0) (N := 16) (ty := .int) (ws1 := (nW cI a (upd s 1 ((((s 1) * (nI 1103515245)) + (nI 12345)) &&& (nI 2147483647))) rk)) B hz hinX0 tyX0_ok nmX0 0 rfl rfl 2 (by decide) lk15 rfl rfl (by decide +kernel) rfl rfl (Nat.le_of_ble_eq_true rfl) (nW_f2 cI a _ _ _) dX0_drawNoise_15 (fun H locs hz => ?_)
  refine lv_aload_n hx hb dX0_drawNoise_18 rfl (lv_at hl 0 rfl) ?_
  refine gz (C := RX0) (T := TX0) (N := 16) (v := .int ((upd s 1 ((((s 1) * (nI 1103515245)) + (nI 12345)) &&& (nI 2147483647))) 1)) B hz hinX0 0 rfl rfl 2 (by decide) lk15 rfl rfl dX0_drawNoise_19 ?_
  refine ldcz (v := (nI 65536)) B (by decide +kernel) dX0_drawNoise_22 ?_
  refine lv_idiv hx hb dX0_drawNoise_24 (by decide) ?_
  refine lv_bipush (v := (nI 31)) hx hb dX0_drawNoise_25 (by decide) ?_
  refine lv_irem hx hb dX0_drawNoise_27 (by decide) ?_
  exact rz_i B hr hz dX0_drawNoise_28 (by rw [pk_us]; rfl) (by rfl)
theorem hd_X0_receiveCopy : hdZ yX0_receiveCopy 2 := by decide +kernel
set_option maxRecDepth 100000 in
set_option maxHeartbeats 4000000 in
theorem c_X0_receiveCopy (l : Launch) (D : va_G) (cI cN : ClassId) (a : Nat → Nat) (s : Sz) (rk : Sz) (w : Int32) (q : Int32) : Fn l D cI cN yX0_receiveCopy wsX0_receiveCopy 1 (nW cI a s rk) [.ref (a 0), .int w, .int q] (some (.int ((fCp w q 24 s).1))) (nW cI a ((fCp w q 24 s).2) rk) := by
  refine Fn.of (cc := cX0_receiveCopy) (nL := 5) (ret := (some .int)) (lv := [(0, .ref (a 0)), (1, .int w), (2, .int q)]) (by decide +kernel) rfl (Nat.le_of_ble_eq_true rfl) rfl ?_
  intro p e s_ m args below meth c A B hr hA H locs ls hz hl
  have hx := B.1.1
  have hb := B.1.2.1
  refine lv_iload_n hx hb dX0_receiveCopy_0 rfl (lv_at hl 1 rfl) ?_
  refine lv_istore_n (lv' := [(3, .int w), (0, .ref (a 0)), (1, .int w), (2, .int q)]) hx hb dX0_receiveCopy_1 rfl hl (by decide) rfl (fun ls hl => ?_)
  refine lv_iconst (v := (nI 0)) hx hb dX0_receiveCopy_2 (by decide) ?_
  refine lv_istore (lv' := [(4, .int (nI 0)), (3, .int w), (0, .ref (a 0)), (1, .int w), (2, .int q)]) hx hb dX0_receiveCopy_3 hl (by decide) rfl (fun ls hl => ?_)
  have LP : ∀ (n_LP : Nat) (i : Nat), i ≤ 24 → 24 - i < n_LP → ∀ (H : Heap) (locs : List Loc) (ls : Array Slot), Hz D A s_.heap H locs (nW cI a ((fCp w q i s).2) rk) → lv_has ls 5 [(0, .ref (a 0)), (1, .int w), (2, .int q), (3, .int ((fCp w q i s).1)), (4, .int (nI i))] → Wz p l e 1 s_ m args below meth c D A (some (.int ((fCp w q 24 s).1))) (nW cI a ((fCp w q 24 s).2) rk) H locs (F0 m 5 ls []) := by
    intro n_LP
    induction n_LP with
    | zero => intro i hi hm; exact absurd hm (Nat.not_lt_zero _)
    | succ n_LP ih_LP =>
      intro i hi hm H locs ls hz hl
      refine lv_iload hx hb dX0_receiveCopy_5 (lv_at hl 4 rfl) ?_
      refine lv_bipush (v := (nI 24)) hx hb dX0_receiveCopy_7 (by decide) ?_
      refine ln_icmp_ge (tgt := 38) hx hb dX0_receiveCopy_9 (by decide) (by constructor <;> omega) (fun c9 => ?_) (fun c9 => ?_)
      · refine lv_iload_n hx hb dX0_receiveCopy_38 rfl (lv_at hl 3 rfl) ?_
        exact rz_i B hr hz dX0_receiveCopy_39 (by rw [show i = 24 by omega]) (by rw [show i = 24 by omega])
      · refine lv_iconst (v := (nI 2)) hx hb dX0_receiveCopy_12 (by decide) ?_
        refine lv_aload_n hx hb dX0_receiveCopy_13 rfl (lv_at hl 0 rfl) ?_
        refine cV (C := RX0) (T := TX0) (N := 16) (ci := 0) (q0 := 0) (k := 1) (As := []) (rest := [.int (nI 2)]) (v := .int (fDv (fDx (((fCp w q i s).2) 1)))) (ws1 := (nW cI a (upd ((fCp w q i s).2) 1 (fDx (((fCp w q i s).2) 1))) rk)) B hz hA (c_X0_drawNoise l D cI cN a ((fCp w q i s).2) rk  ) gX0_receiveCopy_X0_drawNoise rfl rfl hd_X0_drawNoise (by decide) rfl rfl rfl hl.1 rfl (Nat.le_of_ble_eq_true rfl) dX0_receiveCopy_14 (fun H locs hz => ?_)
        refine lv_imul hx hb dX0_receiveCopy_17 ?_
        refine lv_bipush (v := (nI 30)) hx hb dX0_receiveCopy_18 (by decide) ?_
        refine lv_iload_n hx hb dX0_receiveCopy_20 rfl (lv_at hl 2 rfl) ?_
        refine lv_iadd hx hb dX0_receiveCopy_21 ?_
        refine lv_icmp_le (tgt := 32) hx hb dX0_receiveCopy_22 (by decide) (fun c22 => ?_) (fun c22 => ?_)
        · refine lv_iinc (v := nI (i + 1)) (lv' := [(4, .int (nI (i + 1))), (0, .ref (a 0)), (1, .int w), (2, .int q), (3, .int ((fCp w q i s).1))]) hx hb dX0_receiveCopy_32 hl (k := 4) rfl (nI_add i 1) (by decide) rfl (fun ls hl => ?_)
          refine lv_goto (tgt := 5) hx hb dX0_receiveCopy_35 (by decide) ?_
          exact ih_LP (i + 1) (by omega) (by omega) H locs ls (hz.cast (by rfl)) (lv_cast (lv_sub hl [1, 2, 3, 4, 0] (l' := [(0, .ref (a 0)), (1, .int w), (2, .int q), (3, .int ((fCp w q i s).1)), (4, .int (nI (i + 1)))]) rfl) (by first | (simp only [fCp, if_pos c22, xor0]; done) | (simp only [fCp, if_neg c22]; done)))
        · refine lv_iload_n hx hb dX0_receiveCopy_25 rfl (lv_at hl 3 rfl) ?_
          refine lv_iconst (v := (nI 1)) hx hb dX0_receiveCopy_26 (by decide) ?_
          refine lv_iload hx hb dX0_receiveCopy_27 (lv_at hl 4 rfl) ?_
          refine lv_ishl hx hb dX0_receiveCopy_29 ?_
          refine lv_ixor hx hb dX0_receiveCopy_30 ?_
          refine lv_istore_n (lv' := [(3, .int (((fCp w q i s).1) ^^^ ((nI 1) <<< ((nI i) &&& 31)))), (0, .ref (a 0)), (1, .int w), (2, .int q), (4, .int (nI i))]) hx hb dX0_receiveCopy_31 rfl hl (by decide) rfl (fun ls hl => ?_)
          refine lv_iinc (v := nI (i + 1)) (lv' := [(4, .int (nI (i + 1))), (3, .int (((fCp w q i s).1) ^^^ ((nI 1) <<< ((nI i) &&& 31)))), (0, .ref (a 0)), (1, .int w), (2, .int q)]) hx hb dX0_receiveCopy_32 hl (k := 4) rfl (nI_add i 1) (by decide) rfl (fun ls hl => ?_)
          refine lv_goto (tgt := 5) hx hb dX0_receiveCopy_35 (by decide) ?_
          exact ih_LP (i + 1) (by omega) (by omega) H locs ls (hz.cast (by rfl)) (lv_cast (lv_sub hl [2, 3, 4, 1, 0] (l' := [(0, .ref (a 0)), (1, .int w), (2, .int q), (3, .int (((fCp w q i s).1) ^^^ ((nI 1) <<< ((nI i) &&& 31)))), (4, .int (nI (i + 1)))]) rfl) (by first | (simp only [fCp, if_pos c22, xor0]; done) | (simp only [fCp, if_neg c22]; done)))
  exact LP _ 0 (by omega) (Nat.lt_succ_self _) H locs ls (hz.cast (by rfl)) (lv_cast (lv_sub hl [2, 3, 4, 1, 0] (l' := [(0, .ref (a 0)), (1, .int w), (2, .int q), (3, .int w), (4, .int (nI 0))]) rfl) (by rfl))
end
section
theorem xTx (w q : Int32) (s : Sz) : upd (upd (upd (fT3 w q s).2 8 (fTv w q s)) 7 (nI (fTu w q s))) 3 ((upd (upd (fT3 w q s).2 8 (fTv w q s)) 7 (nI (fTu w q s))) 3 + nI 1) = fTx w q s := by
  rw [pk_un (by decide), pk_un (by decide)]
  unfold fTx
  rw [upd_comm (fT3 w q s).2 (show 8 ≠ 7 by decide), upd_comm _ (show 8 ≠ 3 by decide), upd_comm (fT3 w q s).2 (show 7 ≠ 3 by decide)]
theorem xTy (w q : Int32) (f t ch : Nat) (s : Sz) :
  upd (upd (upd (upd (upd (upd (fT3 w q s).2 8 (fTv w q s)) 7 (nI (fTu w q s))) 3 ((upd (upd (fT3 w q s).2 8 (fTv w q s)) 7 (nI (fTu w q s))) 3 + nI 1)) 4 ((upd (upd (upd (fT3 w q s).2 8 (fTv w q s)) 7 (nI (fTu w q s))) 3 ((upd (upd (fT3 w q s).2 8 (fTv w q s)) 7 (nI (fTu w q s))) 3 + nI 1)) 4 + nI 1)) (224 + fAt t f ch) ((upd (upd (upd (upd (fT3 w q s).2 8 (fTv w q s)) 7 (nI (fTu w q s))) 3 ((upd (upd (fT3 w q s).2 8 (fTv w q s)) 7 (nI (fTu w q s))) 3 + nI 1)) 4 ((upd (upd (upd (fT3 w q s).2 8 (fTv w q s)) 7 (nI (fTu w q s))) 3 ((upd (upd (fT3 w q s).2 8 (fTv w q s)) 7 (nI (fTu w q s))) 3 + nI 1)) 4 + nI 1)) 7 * nI 30 / nI 24)) (424 + fAt t f ch)
   ((upd (upd (upd (upd (upd (fT3 w q s).2 8 (fTv w q s)) 7 (nI (fTu w q s))) 3 ((upd (upd (fT3 w q s).2 8 (fTv w q s)) 7 (nI (fTu w q s))) 3 + nI 1)) 4 ((upd (upd (upd (fT3 w q s).2 8 (fTv w q s)) 7 (nI (fTu w q s))) 3 ((upd (upd (fT3 w q s).2 8 (fTv w q s)) 7 (nI (fTu w q s))) 3 + nI 1)) 4 + nI 1)) (224 + fAt t f ch) ((upd (upd (upd (upd (fT3 w q s).2 8 (fTv w q s)) 7 (nI (fTu w q s))) 3 ((upd (upd (fT3 w q s).2 8 (fTv w q s)) 7 (nI (fTu w q s))) 3 + nI 1)) 4 ((upd (upd (upd (fT3 w q s).2 8 (fTv w q s)) 7 (nI (fTu w q s))) 3 ((upd (upd (fT3 w q s).2 8 (fTv w q s)) 7 (nI (fTu w q s))) 3 + nI 1)) 4 + nI 1)) 7 * nI 30 / nI 24)) 0) = fTy w q f t ch s := by
  rw [xTx]
  have e7 : (upd (fTx w q s) 4 (fTx w q s 4 + nI 1)) 7 = nI (fTu w q s) := by
    rw [pk_un (by decide)]
    unfold fTx
    rw [pk_un (by decide), pk_us]
  rw [e7, pk_mul]
  rfl
theorem hd_X2_transmit : hdZ yX2_transmit 5 := by decide +kernel
set_option maxRecDepth 100000 in
set_option maxHeartbeats 4000000 in
theorem c_X2_transmit (l : Launch) (D : va_G) (cI cN : ClassId) (a : Nat → Nat) (s : Sz) (pst : Sz) (np : Nat) (er : Sz) (od : Sz) (rk : Sz) (hs : Int64) (kd : Nat) (f : Nat) (t : Nat) (mt : Nat) (ch : Nat) (hf : f < 5) (ht : t < 5) (hc : ch < 8) (hn : fNn s) : Fn l D cI cN yX2_transmit wsX2_transmit 2 (mW cI a s pst np er od rk hs) [.ref (a 0), .int (nI kd), .int (nI f), .int (nI t), .int (nI mt), .int (nI ch)] (some (.int (b2i ((fTr kd f t mt ch s).1)))) (mW cI a ((fTr kd f t mt ch s).2) pst np er od rk hs) := by
  refine Fn.of (cc := cX2_transmit) (nL := 14) (ret := (some .boolean)) (lv := [(0, .ref (a 0)), (1, .int (nI kd)), (2, .int (nI f)), (3, .int (nI t)), (4, .int (nI mt)), (5, .int (nI ch))]) (by decide +kernel) rfl (Nat.le_of_ble_eq_true rfl) rfl ?_
  intro p e s_ m args below meth c A B hr hA H locs ls hz hl
  have hx := B.1.1
  have hb := B.1.2.1
  have hinX2 : ∀ w ∈ u_ws RX2 TX2 7, w ∈ wsX2_transmit := by decide +kernel
  have lk7 : Cond.fieldLink yX2_transmit.cls 7 RX2 (TX2 0).2.1 (TX2 0).2.2.1 ∈ wsX2_transmit := by decide +kernel
  refine ldcz (v := (nI 65536)) B (by decide +kernel) dX2_transmit_0 ?_
  refine lv_iload_n hx hb dX2_transmit_2 rfl (lv_at hl 1 rfl) ?_
  refine ln_mul hx hb dX2_transmit_3 ?_
  refine lv_sipush (v := (nI 256)) hx hb dX2_transmit_4 (by decide) ?_
  refine lv_iload hx hb dX2_transmit_7 (lv_at hl 4 rfl) ?_
  refine ln_mul hx hb dX2_transmit_9 ?_
  refine ln_add hx hb dX2_transmit_10 ?_
  refine lv_iload_n hx hb dX2_transmit_11 rfl (lv_at hl 2 rfl) ?_
  refine ln_add hx hb dX2_transmit_12 ?_
  refine lv_istore (lv' := [(6, .int (nI (((65536 * kd) + (256 * mt)) + f))), (0, .ref (a 0)), (1, .int (nI kd)), (2, .int (nI f)), (3, .int (nI t)), (4, .int (nI mt)), (5, .int (nI ch))]) hx hb dX2_transmit_13 hl (by decide) rfl (fun ls hl => ?_)
  refine lv_aload_n hx hb dX2_transmit_15 rfl (lv_at hl 1 rfl) ?_
  refine gz (C := RX2) (T := TX2) (N := 7) (v := .ref (a 1)) B hz hinX2 0 rfl rfl 0 (by decide) lk7 rfl rfl dX2_transmit_16 ?_
  refine lv_bipush (v := (nI 24)) hx hb dX2_transmit_19 (by decide) ?_
  refine lv_iload_n hx hb dX2_transmit_21 rfl (lv_at hl 3 rfl) ?_
  refine lv_iload_n hx hb dX2_transmit_22 rfl (lv_at hl 4 rfl) ?_
  refine lv_iload hx hb dX2_transmit_23 (lv_at hl 6 rfl) ?_
  refine cS (k := 2) (As := [.int (nI f), .int (nI t), .int (nI ch)]) (rest := [.int (nI 24), .ref (a 1)]) (v := .int (nI (fAt f t ch))) B hz hA (c_X2_at l D cI cN f t ch ) gX2_transmit_X2_at rfl hd_X2_at (by decide) rfl hl.1 rfl (Nat.le_of_ble_eq_true rfl) dX2_transmit_25 (fun H locs hz => ?_)
  refine ln_add hx hb dX2_transmit_28 ?_
  refine ildz (n := 624) (j := (24 + (fAt f t ch))) (v := (s (24 + (fAt f t ch)))) B hz 1 rfl (by have hat := fAt_lt hf ht hc; have hat2 := fAt_lt ht hf hc; omega) (by decide) rfl dX2_transmit_29 ?_
  refine lv_istore (lv' := [(7, .int (s (24 + (fAt f t ch)))), (6, .int (nI (((65536 * kd) + (256 * mt)) + f))), (0, .ref (a 0)), (1, .int (nI kd)), (2, .int (nI f)), (3, .int (nI t)), (4, .int (nI mt)), (5, .int (nI ch))]) hx hb dX2_transmit_30 hl (by decide) rfl (fun ls hl => ?_)
  refine lv_aload_n hx hb dX2_transmit_32 rfl (lv_at hl 2 rfl) ?_
  refine lv_iload hx hb dX2_transmit_33 (lv_at hl 1 rfl) ?_
  refine lv_iload hx hb dX2_transmit_35 (lv_at hl 0 rfl) ?_
  refine cV (C := RX2) (T := TX2) (N := 7) (ci := 2) (q0 := 0) (k := 2) (As := [.int (nI (((65536 * kd) + (256 * mt)) + f)), .int (s (24 + (fAt f t ch)))]) (rest := []) (v := .int ((fCp (nI (((65536 * kd) + (256 * mt)) + f)) (s (24 + (fAt f t ch))) 24 s).1)) (ws1 := (mW cI a ((fCp (nI (((65536 * kd) + (256 * mt)) + f)) (s (24 + (fAt f t ch))) 24 s).2) pst np er od rk hs)) B hz hA (c_X2_copyOf l D cI cN a s pst np er od rk hs (nI (((65536 * kd) + (256 * mt)) + f)) (s (24 + (fAt f t ch))) (hn)) gX2_transmit_X2_copyOf rfl rfl hd_X2_copyOf (by decide) rfl rfl rfl hl.1 rfl (Nat.le_of_ble_eq_true rfl) dX2_transmit_37 (fun H locs hz => ?_)
  refine lv_istore (lv' := [(8, .int ((fCp (nI (((65536 * kd) + (256 * mt)) + f)) (s (24 + (fAt f t ch))) 24 s).1)), (7, .int (s (24 + (fAt f t ch)))), (6, .int (nI (((65536 * kd) + (256 * mt)) + f))), (0, .ref (a 0)), (1, .int (nI kd)), (2, .int (nI f)), (3, .int (nI t)), (4, .int (nI mt)), (5, .int (nI ch))]) hx hb dX2_transmit_40 hl (by decide) rfl (fun ls hl => ?_)
  refine lv_aload_n hx hb dX2_transmit_42 rfl (lv_at hl 3 rfl) ?_
  refine lv_iload hx hb dX2_transmit_43 (lv_at hl 2 rfl) ?_
  refine lv_iload hx hb dX2_transmit_45 (lv_at hl 1 rfl) ?_
  refine cV (C := RX2) (T := TX2) (N := 7) (ci := 2) (q0 := 0) (k := 2) (As := [.int (nI (((65536 * kd) + (256 * mt)) + f)), .int (s (24 + (fAt f t ch)))]) (rest := []) (v := .int ((fCp (nI (((65536 * kd) + (256 * mt)) + f)) (s (24 + (fAt f t ch))) 24 ((fCp (nI (((65536 * kd) + (256 * mt)) + f)) (s (24 + (fAt f t ch))) 24 s).2)).1)) (ws1 := (mW cI a ((fCp (nI (((65536 * kd) + (256 * mt)) + f)) (s (24 + (fAt f t ch))) 24 ((fCp (nI (((65536 * kd) + (256 * mt)) + f)) (s (24 + (fAt f t ch))) 24 s).2)).2) pst np er od rk hs)) B hz hA (c_X2_copyOf l D cI cN a ((fCp (nI (((65536 * kd) + (256 * mt)) + f)) (s (24 + (fAt f t ch))) 24 s).2) pst np er od rk hs (nI (((65536 * kd) + (256 * mt)) + f)) (s (24 + (fAt f t ch))) ((fTs_nn hn).1)) gX2_transmit_X2_copyOf rfl rfl hd_X2_copyOf (by decide) rfl rfl rfl hl.1 rfl (Nat.le_of_ble_eq_true rfl) dX2_transmit_47 (fun H locs hz => ?_)
  refine lv_istore (lv' := [(9, .int ((fCp (nI (((65536 * kd) + (256 * mt)) + f)) (s (24 + (fAt f t ch))) 24 ((fCp (nI (((65536 * kd) + (256 * mt)) + f)) (s (24 + (fAt f t ch))) 24 s).2)).1)), (8, .int ((fCp (nI (((65536 * kd) + (256 * mt)) + f)) (s (24 + (fAt f t ch))) 24 s).1)), (7, .int (s (24 + (fAt f t ch)))), (6, .int (nI (((65536 * kd) + (256 * mt)) + f))), (0, .ref (a 0)), (1, .int (nI kd)), (2, .int (nI f)), (3, .int (nI t)), (4, .int (nI mt)), (5, .int (nI ch))]) hx hb dX2_transmit_50 hl (by decide) rfl (fun ls hl => ?_)
  refine lv_aload_n hx hb dX2_transmit_52 rfl (lv_at hl 4 rfl) ?_
  refine lv_iload hx hb dX2_transmit_53 (lv_at hl 3 rfl) ?_
  refine lv_iload hx hb dX2_transmit_55 (lv_at hl 2 rfl) ?_
  refine cV (C := RX2) (T := TX2) (N := 7) (ci := 2) (q0 := 0) (k := 2) (As := [.int (nI (((65536 * kd) + (256 * mt)) + f)), .int (s (24 + (fAt f t ch)))]) (rest := []) (v := .int ((fCp (nI (((65536 * kd) + (256 * mt)) + f)) (s (24 + (fAt f t ch))) 24 ((fCp (nI (((65536 * kd) + (256 * mt)) + f)) (s (24 + (fAt f t ch))) 24 ((fCp (nI (((65536 * kd) + (256 * mt)) + f)) (s (24 + (fAt f t ch))) 24 s).2)).2)).1)) (ws1 := (mW cI a ((fCp (nI (((65536 * kd) + (256 * mt)) + f)) (s (24 + (fAt f t ch))) 24 ((fCp (nI (((65536 * kd) + (256 * mt)) + f)) (s (24 + (fAt f t ch))) 24 ((fCp (nI (((65536 * kd) + (256 * mt)) + f)) (s (24 + (fAt f t ch))) 24 s).2)).2)).2) pst np er od rk hs)) B hz hA (c_X2_copyOf l D cI cN a ((fCp (nI (((65536 * kd) + (256 * mt)) + f)) (s (24 + (fAt f t ch))) 24 ((fCp (nI (((65536 * kd) + (256 * mt)) + f)) (s (24 + (fAt f t ch))) 24 s).2)).2) pst np er od rk hs (nI (((65536 * kd) + (256 * mt)) + f)) (s (24 + (fAt f t ch))) ((fTs_nn hn).2.1)) gX2_transmit_X2_copyOf rfl rfl hd_X2_copyOf (by decide) rfl rfl rfl hl.1 rfl (Nat.le_of_ble_eq_true rfl) dX2_transmit_57 (fun H locs hz => ?_)
  refine lv_istore (lv' := [(10, .int ((fCp (nI (((65536 * kd) + (256 * mt)) + f)) (s (24 + (fAt f t ch))) 24 ((fCp (nI (((65536 * kd) + (256 * mt)) + f)) (s (24 + (fAt f t ch))) 24 ((fCp (nI (((65536 * kd) + (256 * mt)) + f)) (s (24 + (fAt f t ch))) 24 s).2)).2)).1)), (9, .int ((fCp (nI (((65536 * kd) + (256 * mt)) + f)) (s (24 + (fAt f t ch))) 24 ((fCp (nI (((65536 * kd) + (256 * mt)) + f)) (s (24 + (fAt f t ch))) 24 s).2)).1)), (8, .int ((fCp (nI (((65536 * kd) + (256 * mt)) + f)) (s (24 + (fAt f t ch))) 24 s).1)), (7, .int (s (24 + (fAt f t ch)))), (6, .int (nI (((65536 * kd) + (256 * mt)) + f))), (0, .ref (a 0)), (1, .int (nI kd)), (2, .int (nI f)), (3, .int (nI t)), (4, .int (nI mt)), (5, .int (nI ch))]) hx hb dX2_transmit_60 hl (by decide) rfl (fun ls hl => ?_)
  refine lv_iload hx hb dX2_transmit_62 (lv_at hl 2 rfl) ?_
  refine lv_iload hx hb dX2_transmit_64 (lv_at hl 1 rfl) ?_
  refine lv_ixor hx hb dX2_transmit_66 ?_
  refine lv_iload hx hb dX2_transmit_67 (lv_at hl 2 rfl) ?_
  refine lv_iload hx hb dX2_transmit_69 (lv_at hl 0 rfl) ?_
  refine lv_ixor hx hb dX2_transmit_71 ?_
  refine lv_ior hx hb dX2_transmit_72 ?_
  refine lv_istore (lv' := [(11, .int ((((fCp (nI (((65536 * kd) + (256 * mt)) + f)) (s (24 + (fAt f t ch))) 24 s).1) ^^^ ((fCp (nI (((65536 * kd) + (256 * mt)) + f)) (s (24 + (fAt f t ch))) 24 ((fCp (nI (((65536 * kd) + (256 * mt)) + f)) (s (24 + (fAt f t ch))) 24 s).2)).1)) ||| (((fCp (nI (((65536 * kd) + (256 * mt)) + f)) (s (24 + (fAt f t ch))) 24 s).1) ^^^ ((fCp (nI (((65536 * kd) + (256 * mt)) + f)) (s (24 + (fAt f t ch))) 24 ((fCp (nI (((65536 * kd) + (256 * mt)) + f)) (s (24 + (fAt f t ch))) 24 ((fCp (nI (((65536 * kd) + (256 * mt)) + f)) (s (24 + (fAt f t ch))) 24 s).2)).2)).1)))), (10, .int ((fCp (nI (((65536 * kd) + (256 * mt)) + f)) (s (24 + (fAt f t ch))) 24 ((fCp (nI (((65536 * kd) + (256 * mt)) + f)) (s (24 + (fAt f t ch))) 24 ((fCp (nI (((65536 * kd) + (256 * mt)) + f)) (s (24 + (fAt f t ch))) 24 s).2)).2)).1)), (9, .int ((fCp (nI (((65536 * kd) + (256 * mt)) + f)) (s (24 + (fAt f t ch))) 24 ((fCp (nI (((65536 * kd) + (256 * mt)) + f)) (s (24 + (fAt f t ch))) 24 s).2)).1)), (8, .int ((fCp (nI (((65536 * kd) + (256 * mt)) + f)) (s (24 + (fAt f t ch))) 24 s).1)), (7, .int (s (24 + (fAt f t ch)))), (6, .int (nI (((65536 * kd) + (256 * mt)) + f))), (0, .ref (a 0)), (1, .int (nI kd)), (2, .int (nI f)), (3, .int (nI t)), (4, .int (nI mt)), (5, .int (nI ch))]) hx hb dX2_transmit_73 hl (by decide) rfl (fun ls hl => ?_)
  refine lv_iconst (v := (nI 0)) hx hb dX2_transmit_75 (by decide) ?_
  refine lv_istore (lv' := [(12, .int (nI 0)), (11, .int ((((fCp (nI (((65536 * kd) + (256 * mt)) + f)) (s (24 + (fAt f t ch))) 24 s).1) ^^^ ((fCp (nI (((65536 * kd) + (256 * mt)) + f)) (s (24 + (fAt f t ch))) 24 ((fCp (nI (((65536 * kd) + (256 * mt)) + f)) (s (24 + (fAt f t ch))) 24 s).2)).1)) ||| (((fCp (nI (((65536 * kd) + (256 * mt)) + f)) (s (24 + (fAt f t ch))) 24 s).1) ^^^ ((fCp (nI (((65536 * kd) + (256 * mt)) + f)) (s (24 + (fAt f t ch))) 24 ((fCp (nI (((65536 * kd) + (256 * mt)) + f)) (s (24 + (fAt f t ch))) 24 ((fCp (nI (((65536 * kd) + (256 * mt)) + f)) (s (24 + (fAt f t ch))) 24 s).2)).2)).1)))), (10, .int ((fCp (nI (((65536 * kd) + (256 * mt)) + f)) (s (24 + (fAt f t ch))) 24 ((fCp (nI (((65536 * kd) + (256 * mt)) + f)) (s (24 + (fAt f t ch))) 24 ((fCp (nI (((65536 * kd) + (256 * mt)) + f)) (s (24 + (fAt f t ch))) 24 s).2)).2)).1)), (9, .int ((fCp (nI (((65536 * kd) + (256 * mt)) + f)) (s (24 + (fAt f t ch))) 24 ((fCp (nI (((65536 * kd) + (256 * mt)) + f)) (s (24 + (fAt f t ch))) 24 s).2)).1)), (8, .int ((fCp (nI (((65536 * kd) + (256 * mt)) + f)) (s (24 + (fAt f t ch))) 24 s).1)), (7, .int (s (24 + (fAt f t ch)))), (6, .int (nI (((65536 * kd) + (256 * mt)) + f))), (0, .ref (a 0)), (1, .int (nI kd)), (2, .int (nI f)), (3, .int (nI t)), (4, .int (nI mt)), (5, .int (nI ch))]) hx hb dX2_transmit_76 hl (by decide) rfl (fun ls hl => ?_)
  refine lv_iconst (v := (nI 0)) hx hb dX2_transmit_78 (by decide) ?_
  refine lv_istore (lv' := [(13, .int (nI 0)), (12, .int (nI 0)), (11, .int ((((fCp (nI (((65536 * kd) + (256 * mt)) + f)) (s (24 + (fAt f t ch))) 24 s).1) ^^^ ((fCp (nI (((65536 * kd) + (256 * mt)) + f)) (s (24 + (fAt f t ch))) 24 ((fCp (nI (((65536 * kd) + (256 * mt)) + f)) (s (24 + (fAt f t ch))) 24 s).2)).1)) ||| (((fCp (nI (((65536 * kd) + (256 * mt)) + f)) (s (24 + (fAt f t ch))) 24 s).1) ^^^ ((fCp (nI (((65536 * kd) + (256 * mt)) + f)) (s (24 + (fAt f t ch))) 24 ((fCp (nI (((65536 * kd) + (256 * mt)) + f)) (s (24 + (fAt f t ch))) 24 ((fCp (nI (((65536 * kd) + (256 * mt)) + f)) (s (24 + (fAt f t ch))) 24 s).2)).2)).1)))), (10, .int ((fCp (nI (((65536 * kd) + (256 * mt)) + f)) (s (24 + (fAt f t ch))) 24 ((fCp (nI (((65536 * kd) + (256 * mt)) + f)) (s (24 + (fAt f t ch))) 24 ((fCp (nI (((65536 * kd) + (256 * mt)) + f)) (s (24 + (fAt f t ch))) 24 s).2)).2)).1)), (9, .int ((fCp (nI (((65536 * kd) + (256 * mt)) + f)) (s (24 + (fAt f t ch))) 24 ((fCp (nI (((65536 * kd) + (256 * mt)) + f)) (s (24 + (fAt f t ch))) 24 s).2)).1)), (8, .int ((fCp (nI (((65536 * kd) + (256 * mt)) + f)) (s (24 + (fAt f t ch))) 24 s).1)), (7, .int (s (24 + (fAt f t ch)))), (6, .int (nI (((65536 * kd) + (256 * mt)) + f))), (0, .ref (a 0)), (1, .int (nI kd)), (2, .int (nI f)), (3, .int (nI t)), (4, .int (nI mt)), (5, .int (nI ch))]) hx hb dX2_transmit_79 hl (by decide) rfl (fun ls hl => ?_)
  have LP : ∀ (n_LP : Nat) (i : Nat) (S : Sz) (A1 : Int32) (A2 : Int32) (A3 : Int32), i ≤ 24 → S = (fT3 (nI (fTw kd f mt)) (s (24 + fAt f t ch)) s).2 → A1 = (fT1 (nI (fTw kd f mt)) (s (24 + fAt f t ch)) s).1 → A2 = (fT2 (nI (fTw kd f mt)) (s (24 + fAt f t ch)) s).1 → A3 = (fT3 (nI (fTw kd f mt)) (s (24 + fAt f t ch)) s).1 → 24 - i < n_LP → ∀ (H : Heap) (locs : List Loc) (ls : Array Slot), Hz D A s_.heap H locs (mW cI a S pst np er od rk hs) → lv_has ls 14 [(0, .ref (a 0)), (1, .int (nI kd)), (2, .int (nI f)), (3, .int (nI t)), (4, .int (nI mt)), (5, .int (nI ch)), (6, .int (nI (fTw kd f mt))), (7, .int (s (24 + fAt f t ch))), (8, .int A1), (9, .int A2), (10, .int A3), (11, .int ((A1 ^^^ A2) ||| (A1 ^^^ A3))), (12, .int (nI (fUn ((A1 ^^^ A2) ||| (A1 ^^^ A3)) i))), (13, .int (nI i))] → Wz p l e 2 s_ m args below meth c D A (some (.int (b2i ((fTr kd f t mt ch s).1)))) (mW cI a ((fTr kd f t mt ch s).2) pst np er od rk hs) H locs (F0 m 81 ls []) := by
    intro n_LP
    induction n_LP with
    | zero => intro i S A1 A2 A3 hi eS eA1 eA2 eA3 hm; exact absurd hm (Nat.not_lt_zero _)
    | succ n_LP ih_LP =>
      intro i S A1 A2 A3 hi eS eA1 eA2 eA3 hm H locs ls hz hl
      refine lv_iload hx hb dX2_transmit_81 (lv_at hl 13 rfl) ?_
      refine lv_bipush (v := (nI 24)) hx hb dX2_transmit_83 (by decide) ?_
      refine ln_icmp_ge (tgt := 114) hx hb dX2_transmit_85 (by decide) (by constructor <;> omega) (fun c85 => ?_) (fun c85 => ?_)
      · refine lv_aload_n hx hb dX2_transmit_114 rfl (lv_at hl 0 rfl) ?_
        refine gz (C := RX2) (T := TX2) (N := 7) (v := .ref (a 1)) B hz hinX2 0 rfl rfl 0 (by decide) lk7 rfl rfl dX2_transmit_115 ?_
        refine lv_iconst (v := (nI 3)) hx hb dX2_transmit_118 (by decide) ?_
        refine lv_dup2_11 hx hb dX2_transmit_119 rfl rfl ?_
        refine ildz (n := 624) (j := 3) (v := (S 3)) B hz 1 rfl (by have hat := fAt_lt hf ht hc; have hat2 := fAt_lt ht hf hc; omega) (by decide) rfl dX2_transmit_120 ?_
        refine lv_iconst (v := (nI 1)) hx hb dX2_transmit_121 (by decide) ?_
        refine lv_iadd hx hb dX2_transmit_122 ?_
        refine istz (n := 624) (j := 3) (ws1 := (mW cI a (upd S 3 ((S 3) + (nI 1))) pst np er od rk hs)) B hz 1 rfl (by have hat := fAt_lt hf ht hc; have hat2 := fAt_lt ht hf hc; omega) (by decide) rfl dX2_transmit_123 (fun H locs hz => ?_)
        refine lv_aload_n hx hb dX2_transmit_124 rfl (lv_at hl 0 rfl) ?_
        refine gz (C := RX2) (T := TX2) (N := 7) (v := .ref (a 1)) B hz hinX2 0 rfl rfl 0 (by decide) lk7 rfl rfl dX2_transmit_125 ?_
        refine lv_bipush (v := (nI 7)) hx hb dX2_transmit_128 (by decide) ?_
        refine lv_iload hx hb dX2_transmit_130 (lv_at hl 12 rfl) ?_
        refine istz (n := 624) (j := 7) (ws1 := (mW cI a (upd (upd S 3 ((S 3) + (nI 1))) 7 (nI (fUn ((A1 ^^^ A2) ||| (A1 ^^^ A3)) i))) pst np er od rk hs)) B hz 1 rfl (by have hat := fAt_lt hf ht hc; have hat2 := fAt_lt ht hf hc; omega) (by decide) rfl dX2_transmit_132 (fun H locs hz => ?_)
        refine lv_aload_n hx hb dX2_transmit_133 rfl (lv_at hl 0 rfl) ?_
        refine gz (C := RX2) (T := TX2) (N := 7) (v := .ref (a 1)) B hz hinX2 0 rfl rfl 0 (by decide) lk7 rfl rfl dX2_transmit_134 ?_
        refine lv_bipush (v := (nI 8)) hx hb dX2_transmit_137 (by decide) ?_
        refine lv_iload hx hb dX2_transmit_139 (lv_at hl 8 rfl) ?_
        refine lv_iload hx hb dX2_transmit_141 (lv_at hl 9 rfl) ?_
        refine lv_iload hx hb dX2_transmit_143 (lv_at hl 10 rfl) ?_
        refine cS (k := 2) (As := [.int A1, .int A2, .int A3]) (rest := [.int (nI 8), .ref (a 1)]) (v := .int (fMaj A1 A2 A3)) B hz hA (c_X2_majority l D cI cN A1 A2 A3 ) gX2_transmit_X2_majority rfl hd_X2_majority (by decide) rfl hl.1 rfl (Nat.le_of_ble_eq_true rfl) dX2_transmit_145 (fun H locs hz => ?_)
        refine istz (n := 624) (j := 8) (ws1 := (mW cI a (upd (upd (upd S 3 ((S 3) + (nI 1))) 7 (nI (fUn ((A1 ^^^ A2) ||| (A1 ^^^ A3)) i))) 8 (fMaj A1 A2 A3)) pst np er od rk hs)) B hz 1 rfl (by have hat := fAt_lt hf ht hc; have hat2 := fAt_lt ht hf hc; omega) (by decide) rfl dX2_transmit_148 (fun H locs hz => ?_)
        refine lv_aload_n hx hb dX2_transmit_149 rfl (lv_at hl 0 rfl) ?_
        refine gz (C := RX2) (T := TX2) (N := 7) (v := .ref (a 1)) B hz hinX2 0 rfl rfl 0 (by decide) lk7 rfl rfl dX2_transmit_150 ?_
        refine lv_bipush (v := (nI 8)) hx hb dX2_transmit_153 (by decide) ?_
        refine ildz (n := 624) (j := 8) (v := ((upd (upd (upd S 3 ((S 3) + (nI 1))) 7 (nI (fUn ((A1 ^^^ A2) ||| (A1 ^^^ A3)) i))) 8 (fMaj A1 A2 A3)) 8)) B hz 1 rfl (by have hat := fAt_lt hf ht hc; have hat2 := fAt_lt ht hf hc; omega) (by decide) rfl dX2_transmit_155 ?_
        refine lv_iload hx hb dX2_transmit_156 (lv_at hl 6 rfl) ?_
        refine lv_icmp_eq (tgt := 163) hx hb dX2_transmit_158 (by decide) (fun c158 => ?_) (fun c158 => ?_)
        · refine lv_aload_n hx hb dX2_transmit_163 rfl (lv_at hl 0 rfl) ?_
          refine gz (C := RX2) (T := TX2) (N := 7) (v := .ref (a 1)) B hz hinX2 0 rfl rfl 0 (by decide) lk7 rfl rfl dX2_transmit_164 ?_
          refine lv_iconst (v := (nI 4)) hx hb dX2_transmit_167 (by decide) ?_
          refine lv_dup2_11 hx hb dX2_transmit_168 rfl rfl ?_
          refine ildz (n := 624) (j := 4) (v := ((upd (upd (upd S 3 ((S 3) + (nI 1))) 7 (nI (fUn ((A1 ^^^ A2) ||| (A1 ^^^ A3)) i))) 8 (fMaj A1 A2 A3)) 4)) B hz 1 rfl (by have hat := fAt_lt hf ht hc; have hat2 := fAt_lt ht hf hc; omega) (by decide) rfl dX2_transmit_169 ?_
          refine lv_iconst (v := (nI 1)) hx hb dX2_transmit_170 (by decide) ?_
          refine lv_iadd hx hb dX2_transmit_171 ?_
          refine istz (n := 624) (j := 4) (ws1 := (mW cI a (upd (upd (upd (upd S 3 ((S 3) + (nI 1))) 7 (nI (fUn ((A1 ^^^ A2) ||| (A1 ^^^ A3)) i))) 8 (fMaj A1 A2 A3)) 4 (((upd (upd (upd S 3 ((S 3) + (nI 1))) 7 (nI (fUn ((A1 ^^^ A2) ||| (A1 ^^^ A3)) i))) 8 (fMaj A1 A2 A3)) 4) + (nI 1))) pst np er od rk hs)) B hz 1 rfl (by have hat := fAt_lt hf ht hc; have hat2 := fAt_lt ht hf hc; omega) (by decide) rfl dX2_transmit_172 (fun H locs hz => ?_)
          refine lv_aload_n hx hb dX2_transmit_173 rfl (lv_at hl 0 rfl) ?_
          refine gz (C := RX2) (T := TX2) (N := 7) (v := .ref (a 1)) B hz hinX2 0 rfl rfl 0 (by decide) lk7 rfl rfl dX2_transmit_174 ?_
          refine lv_sipush (v := (nI 224)) hx hb dX2_transmit_177 (by decide) ?_
          refine lv_iload_n hx hb dX2_transmit_180 rfl (lv_at hl 3 rfl) ?_
          refine lv_iload_n hx hb dX2_transmit_181 rfl (lv_at hl 2 rfl) ?_
          refine lv_iload hx hb dX2_transmit_182 (lv_at hl 5 rfl) ?_
          refine cS (k := 2) (As := [.int (nI t), .int (nI f), .int (nI ch)]) (rest := [.int (nI 224), .ref (a 1)]) (v := .int (nI (fAt t f ch))) B hz hA (c_X2_at l D cI cN t f ch ) gX2_transmit_X2_at rfl hd_X2_at (by decide) rfl hl.1 rfl (Nat.le_of_ble_eq_true rfl) dX2_transmit_184 (fun H locs hz => ?_)
          refine ln_add hx hb dX2_transmit_187 ?_
          refine lv_iload hx hb dX2_transmit_188 (lv_at hl 12 rfl) ?_
          refine lv_bipush (v := (nI 30)) hx hb dX2_transmit_190 (by decide) ?_
          refine ln_mul hx hb dX2_transmit_192 ?_
          refine lv_bipush (v := (nI 24)) hx hb dX2_transmit_193 (by decide) ?_
          refine lv_idiv hx hb dX2_transmit_195 (by decide) ?_
          refine istz (n := 624) (j := (224 + (fAt t f ch))) (ws1 := (mW cI a (upd (upd (upd (upd (upd S 3 ((S 3) + (nI 1))) 7 (nI (fUn ((A1 ^^^ A2) ||| (A1 ^^^ A3)) i))) 8 (fMaj A1 A2 A3)) 4 (((upd (upd (upd S 3 ((S 3) + (nI 1))) 7 (nI (fUn ((A1 ^^^ A2) ||| (A1 ^^^ A3)) i))) 8 (fMaj A1 A2 A3)) 4) + (nI 1))) (224 + (fAt t f ch)) ((nI ((fUn ((A1 ^^^ A2) ||| (A1 ^^^ A3)) i) * 30)) / (nI 24))) pst np er od rk hs)) B hz 1 rfl (by have hat := fAt_lt hf ht hc; have hat2 := fAt_lt ht hf hc; omega) (by decide) rfl dX2_transmit_196 (fun H locs hz => ?_)
          refine lv_aload_n hx hb dX2_transmit_197 rfl (lv_at hl 0 rfl) ?_
          refine gz (C := RX2) (T := TX2) (N := 7) (v := .ref (a 1)) B hz hinX2 0 rfl rfl 0 (by decide) lk7 rfl rfl dX2_transmit_198 ?_
          refine lv_sipush (v := (nI 424)) hx hb dX2_transmit_201 (by decide) ?_
          refine lv_iload_n hx hb dX2_transmit_204 rfl (lv_at hl 3 rfl) ?_
          refine lv_iload_n hx hb dX2_transmit_205 rfl (lv_at hl 2 rfl) ?_
          refine lv_iload hx hb dX2_transmit_206 (lv_at hl 5 rfl) ?_
          refine cS (k := 2) (As := [.int (nI t), .int (nI f), .int (nI ch)]) (rest := [.int (nI 424), .ref (a 1)]) (v := .int (nI (fAt t f ch))) B hz hA (c_X2_at l D cI cN t f ch ) gX2_transmit_X2_at rfl hd_X2_at (by decide) rfl hl.1 rfl (Nat.le_of_ble_eq_true rfl) dX2_transmit_208 (fun H locs hz => ?_)
          refine ln_add hx hb dX2_transmit_211 ?_
          refine lv_aload_n hx hb dX2_transmit_212 rfl (lv_at hl 0 rfl) ?_
          refine gz (C := RX2) (T := TX2) (N := 7) (v := .ref (a 1)) B hz hinX2 0 rfl rfl 0 (by decide) lk7 rfl rfl dX2_transmit_213 ?_
          refine lv_iconst (v := (nI 0)) hx hb dX2_transmit_216 (by decide) ?_
          refine ildz (n := 624) (j := 0) (v := ((upd (upd (upd (upd (upd S 3 ((S 3) + (nI 1))) 7 (nI (fUn ((A1 ^^^ A2) ||| (A1 ^^^ A3)) i))) 8 (fMaj A1 A2 A3)) 4 (((upd (upd (upd S 3 ((S 3) + (nI 1))) 7 (nI (fUn ((A1 ^^^ A2) ||| (A1 ^^^ A3)) i))) 8 (fMaj A1 A2 A3)) 4) + (nI 1))) (224 + (fAt t f ch)) ((nI ((fUn ((A1 ^^^ A2) ||| (A1 ^^^ A3)) i) * 30)) / (nI 24))) 0)) B hz 1 rfl (by have hat := fAt_lt hf ht hc; have hat2 := fAt_lt ht hf hc; omega) (by decide) rfl dX2_transmit_217 ?_
          refine istz (n := 624) (j := (424 + (fAt t f ch))) (ws1 := (mW cI a (upd (upd (upd (upd (upd (upd S 3 ((S 3) + (nI 1))) 7 (nI (fUn ((A1 ^^^ A2) ||| (A1 ^^^ A3)) i))) 8 (fMaj A1 A2 A3)) 4 (((upd (upd (upd S 3 ((S 3) + (nI 1))) 7 (nI (fUn ((A1 ^^^ A2) ||| (A1 ^^^ A3)) i))) 8 (fMaj A1 A2 A3)) 4) + (nI 1))) (224 + (fAt t f ch)) ((nI ((fUn ((A1 ^^^ A2) ||| (A1 ^^^ A3)) i) * 30)) / (nI 24))) (424 + (fAt t f ch)) ((upd (upd (upd (upd (upd S 3 ((S 3) + (nI 1))) 7 (nI (fUn ((A1 ^^^ A2) ||| (A1 ^^^ A3)) i))) 8 (fMaj A1 A2 A3)) 4 (((upd (upd (upd S 3 ((S 3) + (nI 1))) 7 (nI (fUn ((A1 ^^^ A2) ||| (A1 ^^^ A3)) i))) 8 (fMaj A1 A2 A3)) 4) + (nI 1))) (224 + (fAt t f ch)) ((nI ((fUn ((A1 ^^^ A2) ||| (A1 ^^^ A3)) i) * 30)) / (nI 24))) 0)) pst np er od rk hs)) B hz 1 rfl (by have hat := fAt_lt hf ht hc; have hat2 := fAt_lt ht hf hc; omega) (by decide) rfl dX2_transmit_218 (fun H locs hz => ?_)
          refine lv_iconst (v := (nI 1)) hx hb dX2_transmit_219 (by decide) ?_
          exact rz_z1 B hr hz dX2_transmit_220 (by subst eS eA1 eA2 eA3; rw [pk_us] at c158; exact (congrArg Prod.fst (fTr_t c158)).symm) (by subst eS eA1 eA2 eA3; rw [pk_us] at c158; obtain rfl : i = 24 := (by omega); first | (rw [fTr_t c158]; rfl) | (rw [fTr_f c158]; rfl))
        · refine lv_iconst (v := (nI 0)) hx hb dX2_transmit_161 (by decide) ?_
          exact rz_z0 B hr hz dX2_transmit_162 (by subst eS eA1 eA2 eA3; rw [pk_us] at c158; exact (congrArg Prod.fst (fTr_f c158)).symm) (by subst eS eA1 eA2 eA3; rw [pk_us] at c158; obtain rfl : i = 24 := (by omega); first | (rw [fTr_t c158]; rfl) | (rw [fTr_f c158]; rfl))
      · refine lv_iload hx hb dX2_transmit_88 (lv_at hl 12 rfl) ?_
        refine lv_iload hx hb dX2_transmit_90 (lv_at hl 11 rfl) ?_
        refine lv_iload hx hb dX2_transmit_92 (lv_at hl 13 rfl) ?_
        refine cS (k := 2) (As := [.int ((A1 ^^^ A2) ||| (A1 ^^^ A3)), .int (nI i)]) (rest := [.int (nI (fUn ((A1 ^^^ A2) ||| (A1 ^^^ A3)) i))]) (v := .int (b2i (fHas ((A1 ^^^ A2) ||| (A1 ^^^ A3)) (nI i)))) B hz hA (c_X2_has l D cI cN ((A1 ^^^ A2) ||| (A1 ^^^ A3)) (nI i) ) gX2_transmit_X2_has rfl hd_X2_has (by decide) rfl hl.1 rfl (Nat.le_of_ble_eq_true rfl) dX2_transmit_94 (fun H locs hz => ?_)
        refine lb_if_eq (tgt := 104) hx hb dX2_transmit_97 (by decide) (fun c97 => ?_) (fun c97 => ?_)
        · refine lv_iconst (v := (nI 1)) hx hb dX2_transmit_104 (by decide) ?_
          refine ln_add hx hb dX2_transmit_105 ?_
          refine lv_istore (lv' := [(12, .int (nI ((fUn ((A1 ^^^ A2) ||| (A1 ^^^ A3)) i) + 1))), (0, .ref (a 0)), (1, .int (nI kd)), (2, .int (nI f)), (3, .int (nI t)), (4, .int (nI mt)), (5, .int (nI ch)), (6, .int (nI (fTw kd f mt))), (7, .int (s (24 + fAt f t ch))), (8, .int A1), (9, .int A2), (10, .int A3), (11, .int ((A1 ^^^ A2) ||| (A1 ^^^ A3))), (13, .int (nI i))]) hx hb dX2_transmit_106 hl (by decide) rfl (fun ls hl => ?_)
          refine lv_iinc (v := nI (i + 1)) (lv' := [(13, .int (nI (i + 1))), (12, .int (nI ((fUn ((A1 ^^^ A2) ||| (A1 ^^^ A3)) i) + 1))), (0, .ref (a 0)), (1, .int (nI kd)), (2, .int (nI f)), (3, .int (nI t)), (4, .int (nI mt)), (5, .int (nI ch)), (6, .int (nI (fTw kd f mt))), (7, .int (s (24 + fAt f t ch))), (8, .int A1), (9, .int A2), (10, .int A3), (11, .int ((A1 ^^^ A2) ||| (A1 ^^^ A3)))]) hx hb dX2_transmit_108 hl (k := 13) rfl (nI_add i 1) (by decide) rfl (fun ls hl => ?_)
          refine lv_goto (tgt := 81) hx hb dX2_transmit_111 (by decide) ?_
          exact ih_LP (i + 1) S A1 A2 A3 (by omega) (eS) (eA1) (eA2) (eA3) (by omega) H locs ls (hz.cast (by rfl)) (lv_cast (lv_sub hl [2, 3, 4, 5, 6, 7, 8, 9, 10, 11, 12, 13, 1, 0] (l' := [(0, .ref (a 0)), (1, .int (nI kd)), (2, .int (nI f)), (3, .int (nI t)), (4, .int (nI mt)), (5, .int (nI ch)), (6, .int (nI (fTw kd f mt))), (7, .int (s (24 + fAt f t ch))), (8, .int A1), (9, .int A2), (10, .int A3), (11, .int ((A1 ^^^ A2) ||| (A1 ^^^ A3))), (12, .int (nI ((fUn ((A1 ^^^ A2) ||| (A1 ^^^ A3)) i) + 1))), (13, .int (nI (i + 1)))]) rfl) (by simp only [fUn]; simp_all))
        · refine lv_iconst (v := (nI 0)) hx hb dX2_transmit_100 (by decide) ?_
          refine lv_goto (tgt := 105) hx hb dX2_transmit_101 (by decide) ?_
          refine ln_add hx hb dX2_transmit_105 ?_
          refine lv_istore (lv' := [(12, .int (nI ((fUn ((A1 ^^^ A2) ||| (A1 ^^^ A3)) i) + 0))), (0, .ref (a 0)), (1, .int (nI kd)), (2, .int (nI f)), (3, .int (nI t)), (4, .int (nI mt)), (5, .int (nI ch)), (6, .int (nI (fTw kd f mt))), (7, .int (s (24 + fAt f t ch))), (8, .int A1), (9, .int A2), (10, .int A3), (11, .int ((A1 ^^^ A2) ||| (A1 ^^^ A3))), (13, .int (nI i))]) hx hb dX2_transmit_106 hl (by decide) rfl (fun ls hl => ?_)
          refine lv_iinc (v := nI (i + 1)) (lv' := [(13, .int (nI (i + 1))), (12, .int (nI ((fUn ((A1 ^^^ A2) ||| (A1 ^^^ A3)) i) + 0))), (0, .ref (a 0)), (1, .int (nI kd)), (2, .int (nI f)), (3, .int (nI t)), (4, .int (nI mt)), (5, .int (nI ch)), (6, .int (nI (fTw kd f mt))), (7, .int (s (24 + fAt f t ch))), (8, .int A1), (9, .int A2), (10, .int A3), (11, .int ((A1 ^^^ A2) ||| (A1 ^^^ A3)))]) hx hb dX2_transmit_108 hl (k := 13) rfl (nI_add i 1) (by decide) rfl (fun ls hl => ?_)
          refine lv_goto (tgt := 81) hx hb dX2_transmit_111 (by decide) ?_
          exact ih_LP (i + 1) S A1 A2 A3 (by omega) (eS) (eA1) (eA2) (eA3) (by omega) H locs ls (hz.cast (by rfl)) (lv_cast (lv_sub hl [2, 3, 4, 5, 6, 7, 8, 9, 10, 11, 12, 13, 1, 0] (l' := [(0, .ref (a 0)), (1, .int (nI kd)), (2, .int (nI f)), (3, .int (nI t)), (4, .int (nI mt)), (5, .int (nI ch)), (6, .int (nI (fTw kd f mt))), (7, .int (s (24 + fAt f t ch))), (8, .int A1), (9, .int A2), (10, .int A3), (11, .int ((A1 ^^^ A2) ||| (A1 ^^^ A3))), (12, .int (nI ((fUn ((A1 ^^^ A2) ||| (A1 ^^^ A3)) i) + 0))), (13, .int (nI (i + 1)))]) rfl) (by simp only [fUn]; simp_all))
  exact LP _ 0 ((fT3 (nI (fTw kd f mt)) (s (24 + fAt f t ch)) s).2) ((fT1 (nI (fTw kd f mt)) (s (24 + fAt f t ch)) s).1) ((fT2 (nI (fTw kd f mt)) (s (24 + fAt f t ch)) s).1) ((fT3 (nI (fTw kd f mt)) (s (24 + fAt f t ch)) s).1) (by omega) (rfl) (rfl) (rfl) (rfl) (Nat.lt_succ_self _) H locs ls (hz.cast (by rfl)) (lv_cast (lv_sub hl [8, 9, 10, 11, 12, 13, 7, 6, 5, 4, 3, 2, 1, 0] (l' := [(0, .ref (a 0)), (1, .int (nI kd)), (2, .int (nI f)), (3, .int (nI t)), (4, .int (nI mt)), (5, .int (nI ch)), (6, .int (nI (((65536 * kd) + (256 * mt)) + f))), (7, .int (s (24 + (fAt f t ch)))), (8, .int ((fCp (nI (((65536 * kd) + (256 * mt)) + f)) (s (24 + (fAt f t ch))) 24 s).1)), (9, .int ((fCp (nI (((65536 * kd) + (256 * mt)) + f)) (s (24 + (fAt f t ch))) 24 ((fCp (nI (((65536 * kd) + (256 * mt)) + f)) (s (24 + (fAt f t ch))) 24 s).2)).1)), (10, .int ((fCp (nI (((65536 * kd) + (256 * mt)) + f)) (s (24 + (fAt f t ch))) 24 ((fCp (nI (((65536 * kd) + (256 * mt)) + f)) (s (24 + (fAt f t ch))) 24 ((fCp (nI (((65536 * kd) + (256 * mt)) + f)) (s (24 + (fAt f t ch))) 24 s).2)).2)).1)), (11, .int ((((fCp (nI (((65536 * kd) + (256 * mt)) + f)) (s (24 + (fAt f t ch))) 24 s).1) ^^^ ((fCp (nI (((65536 * kd) + (256 * mt)) + f)) (s (24 + (fAt f t ch))) 24 ((fCp (nI (((65536 * kd) + (256 * mt)) + f)) (s (24 + (fAt f t ch))) 24 s).2)).1)) ||| (((fCp (nI (((65536 * kd) + (256 * mt)) + f)) (s (24 + (fAt f t ch))) 24 s).1) ^^^ ((fCp (nI (((65536 * kd) + (256 * mt)) + f)) (s (24 + (fAt f t ch))) 24 ((fCp (nI (((65536 * kd) + (256 * mt)) + f)) (s (24 + (fAt f t ch))) 24 ((fCp (nI (((65536 * kd) + (256 * mt)) + f)) (s (24 + (fAt f t ch))) 24 s).2)).2)).1)))), (12, .int (nI 0)), (13, .int (nI 0))]) rfl) (by rfl))
theorem hd_X0_transmit : hdZ yX0_transmit 5 := by decide +kernel
set_option maxRecDepth 100000 in
set_option maxHeartbeats 4000000 in
theorem c_X0_transmit (l : Launch) (D : va_G) (cI cN : ClassId) (a : Nat → Nat) (s : Sz) (rk : Sz) (kd : Nat) (f : Nat) (t : Nat) (mt : Nat) (ch : Nat) (hf : f < 5) (ht : t < 5) (hc : ch < 8) : Fn l D cI cN yX0_transmit wsX0_transmit 2 (nW cI a s rk) [.ref (a 0), .int (nI kd), .int (nI f), .int (nI t), .int (nI mt), .int (nI ch)] (some (.int (b2i ((fTr kd f t mt ch s).1)))) (nW cI a ((fTr kd f t mt ch s).2) rk) := by
  refine Fn.of (cc := cX0_transmit) (nL := 11) (ret := (some .boolean)) (lv := [(0, .ref (a 0)), (1, .int (nI kd)), (2, .int (nI f)), (3, .int (nI t)), (4, .int (nI mt)), (5, .int (nI ch))]) (by decide +kernel) rfl (Nat.le_of_ble_eq_true rfl) rfl ?_
  intro p e s_ m args below meth c A B hr hA H locs ls hz hl
  have hx := B.1.1
  have hb := B.1.2.1
  have hinX0 : ∀ w ∈ u_ws RX0 TX0 16, w ∈ wsX0_transmit := by decide +kernel
  have lk21 : Cond.fieldLink yX0_transmit.cls 21 RX0 (TX0 7).2.1 (TX0 7).2.2.1 ∈ wsX0_transmit := by decide +kernel
  have lk24 : Cond.fieldLink yX0_transmit.cls 24 RX0 (TX0 8).2.1 (TX0 8).2.2.1 ∈ wsX0_transmit := by decide +kernel
  have lk37 : Cond.fieldLink yX0_transmit.cls 37 RX0 (TX0 12).2.1 (TX0 12).2.2.1 ∈ wsX0_transmit := by decide +kernel
  have lk40 : Cond.fieldLink yX0_transmit.cls 40 RX0 (TX0 13).2.1 (TX0 13).2.2.1 ∈ wsX0_transmit := by decide +kernel
  have lk43 : Cond.fieldLink yX0_transmit.cls 43 RX0 (TX0 14).2.1 (TX0 14).2.2.1 ∈ wsX0_transmit := by decide +kernel
  have lk55 : Cond.fieldLink yX0_transmit.cls 55 RX0 (TX0 0).2.1 (TX0 0).2.2.1 ∈ wsX0_transmit := by decide +kernel
  have lk58 : Cond.fieldLink yX0_transmit.cls 58 RX0 (TX0 3).2.1 (TX0 3).2.2.1 ∈ wsX0_transmit := by decide +kernel
  have lk61 : Cond.fieldLink yX0_transmit.cls 61 RX0 (TX0 4).2.1 (TX0 4).2.2.1 ∈ wsX0_transmit := by decide +kernel
  refine ldcz (v := (nI 65536)) B (by decide +kernel) dX0_transmit_0 ?_
  refine lv_iload_n hx hb dX0_transmit_2 rfl (lv_at hl 1 rfl) ?_
  refine ln_mul hx hb dX0_transmit_3 ?_
  refine lv_sipush (v := (nI 256)) hx hb dX0_transmit_4 (by decide) ?_
  refine lv_iload hx hb dX0_transmit_7 (lv_at hl 4 rfl) ?_
  refine ln_mul hx hb dX0_transmit_9 ?_
  refine ln_add hx hb dX0_transmit_10 ?_
  refine lv_iload_n hx hb dX0_transmit_11 rfl (lv_at hl 2 rfl) ?_
  refine ln_add hx hb dX0_transmit_12 ?_
  refine lv_istore (lv' := [(6, .int (nI (((65536 * kd) + (256 * mt)) + f))), (0, .ref (a 0)), (1, .int (nI kd)), (2, .int (nI f)), (3, .int (nI t)), (4, .int (nI mt)), (5, .int (nI ch))]) hx hb dX0_transmit_13 hl (by decide) rfl (fun ls hl => ?_)
  refine lv_aload_n hx hb dX0_transmit_15 rfl (lv_at hl 1 rfl) ?_
  refine gz (C := RX0) (T := TX0) (N := 16) (v := .ref (a 4)) B hz hinX0 0 rfl rfl 12 (by decide) lk37 rfl rfl dX0_transmit_16 ?_
  refine lv_iload_n hx hb dX0_transmit_19 rfl (lv_at hl 3 rfl) ?_
  refine lv_iload_n hx hb dX0_transmit_20 rfl (lv_at hl 4 rfl) ?_
  refine lv_iload hx hb dX0_transmit_21 (lv_at hl 6 rfl) ?_
  refine cNst (k := 2) (As := [.int (nI f), .int (nI t), .int (nI ch)]) (rest := [.ref (a 4)]) (v := .int (nI (fAt f t ch))) B hz hA (c_X1_cell l D cI cN f t ch ) gX0_transmit_X1_cell_n103 rfl (by decide +kernel) (by decide +kernel) (by decide +kernel) rfl hd_X1_cell (by decide) rfl hl.1 rfl (Nat.le_of_ble_eq_true rfl) dX0_transmit_23 (fun H locs hz => ?_)
  refine ildz (n := 200) (j := (fAt f t ch)) (v := (s (24 + (fAt f t ch)))) B hz 4 rfl (by have hat := fAt_lt hf ht hc; have hat2 := fAt_lt ht hf hc; omega) (by decide) (seg_at (by have hat := fAt_lt hf ht hc; have hat2 := fAt_lt ht hf hc; omega)) dX0_transmit_26 ?_
  refine lv_istore (lv' := [(7, .int (s (24 + (fAt f t ch)))), (6, .int (nI (((65536 * kd) + (256 * mt)) + f))), (0, .ref (a 0)), (1, .int (nI kd)), (2, .int (nI f)), (3, .int (nI t)), (4, .int (nI mt)), (5, .int (nI ch))]) hx hb dX0_transmit_27 hl (by decide) rfl (fun ls hl => ?_)
  refine lv_aload_n hx hb dX0_transmit_29 rfl (lv_at hl 2 rfl) ?_
  refine lv_iload hx hb dX0_transmit_30 (lv_at hl 1 rfl) ?_
  refine lv_iload hx hb dX0_transmit_32 (lv_at hl 0 rfl) ?_
  refine cV (C := RX0) (T := TX0) (N := 16) (ci := 0) (q0 := 0) (k := 2) (As := [.int (nI (((65536 * kd) + (256 * mt)) + f)), .int (s (24 + (fAt f t ch)))]) (rest := []) (v := .int ((fCp (nI (((65536 * kd) + (256 * mt)) + f)) (s (24 + (fAt f t ch))) 24 s).1)) (ws1 := (nW cI a ((fCp (nI (((65536 * kd) + (256 * mt)) + f)) (s (24 + (fAt f t ch))) 24 s).2) rk)) B hz hA (c_X0_receiveCopy l D cI cN a s rk (nI (((65536 * kd) + (256 * mt)) + f)) (s (24 + (fAt f t ch))) ) gX0_transmit_X0_receiveCopy rfl rfl hd_X0_receiveCopy (by decide) rfl rfl rfl hl.1 rfl (Nat.le_of_ble_eq_true rfl) dX0_transmit_34 (fun H locs hz => ?_)
  refine lv_istore (lv' := [(8, .int ((fCp (nI (((65536 * kd) + (256 * mt)) + f)) (s (24 + (fAt f t ch))) 24 s).1)), (7, .int (s (24 + (fAt f t ch)))), (6, .int (nI (((65536 * kd) + (256 * mt)) + f))), (0, .ref (a 0)), (1, .int (nI kd)), (2, .int (nI f)), (3, .int (nI t)), (4, .int (nI mt)), (5, .int (nI ch))]) hx hb dX0_transmit_37 hl (by decide) rfl (fun ls hl => ?_)
  refine lv_aload_n hx hb dX0_transmit_39 rfl (lv_at hl 3 rfl) ?_
  refine lv_iload hx hb dX0_transmit_40 (lv_at hl 2 rfl) ?_
  refine lv_iload hx hb dX0_transmit_42 (lv_at hl 1 rfl) ?_
  refine cV (C := RX0) (T := TX0) (N := 16) (ci := 0) (q0 := 0) (k := 2) (As := [.int (nI (((65536 * kd) + (256 * mt)) + f)), .int (s (24 + (fAt f t ch)))]) (rest := []) (v := .int ((fCp (nI (((65536 * kd) + (256 * mt)) + f)) (s (24 + (fAt f t ch))) 24 ((fCp (nI (((65536 * kd) + (256 * mt)) + f)) (s (24 + (fAt f t ch))) 24 s).2)).1)) (ws1 := (nW cI a ((fCp (nI (((65536 * kd) + (256 * mt)) + f)) (s (24 + (fAt f t ch))) 24 ((fCp (nI (((65536 * kd) + (256 * mt)) + f)) (s (24 + (fAt f t ch))) 24 s).2)).2) rk)) B hz hA (c_X0_receiveCopy l D cI cN a ((fCp (nI (((65536 * kd) + (256 * mt)) + f)) (s (24 + (fAt f t ch))) 24 s).2) rk (nI (((65536 * kd) + (256 * mt)) + f)) (s (24 + (fAt f t ch))) ) gX0_transmit_X0_receiveCopy rfl rfl hd_X0_receiveCopy (by decide) rfl rfl rfl hl.1 rfl (Nat.le_of_ble_eq_true rfl) dX0_transmit_44 (fun H locs hz => ?_)
  refine lv_istore (lv' := [(9, .int ((fCp (nI (((65536 * kd) + (256 * mt)) + f)) (s (24 + (fAt f t ch))) 24 ((fCp (nI (((65536 * kd) + (256 * mt)) + f)) (s (24 + (fAt f t ch))) 24 s).2)).1)), (8, .int ((fCp (nI (((65536 * kd) + (256 * mt)) + f)) (s (24 + (fAt f t ch))) 24 s).1)), (7, .int (s (24 + (fAt f t ch)))), (6, .int (nI (((65536 * kd) + (256 * mt)) + f))), (0, .ref (a 0)), (1, .int (nI kd)), (2, .int (nI f)), (3, .int (nI t)), (4, .int (nI mt)), (5, .int (nI ch))]) hx hb dX0_transmit_47 hl (by decide) rfl (fun ls hl => ?_)
  refine lv_aload_n hx hb dX0_transmit_49 rfl (lv_at hl 4 rfl) ?_
  refine lv_iload hx hb dX0_transmit_50 (lv_at hl 3 rfl) ?_
  refine lv_iload hx hb dX0_transmit_52 (lv_at hl 2 rfl) ?_
  refine cV (C := RX0) (T := TX0) (N := 16) (ci := 0) (q0 := 0) (k := 2) (As := [.int (nI (((65536 * kd) + (256 * mt)) + f)), .int (s (24 + (fAt f t ch)))]) (rest := []) (v := .int ((fCp (nI (((65536 * kd) + (256 * mt)) + f)) (s (24 + (fAt f t ch))) 24 ((fCp (nI (((65536 * kd) + (256 * mt)) + f)) (s (24 + (fAt f t ch))) 24 ((fCp (nI (((65536 * kd) + (256 * mt)) + f)) (s (24 + (fAt f t ch))) 24 s).2)).2)).1)) (ws1 := (nW cI a ((fCp (nI (((65536 * kd) + (256 * mt)) + f)) (s (24 + (fAt f t ch))) 24 ((fCp (nI (((65536 * kd) + (256 * mt)) + f)) (s (24 + (fAt f t ch))) 24 ((fCp (nI (((65536 * kd) + (256 * mt)) + f)) (s (24 + (fAt f t ch))) 24 s).2)).2)).2) rk)) B hz hA (c_X0_receiveCopy l D cI cN a ((fCp (nI (((65536 * kd) + (256 * mt)) + f)) (s (24 + (fAt f t ch))) 24 ((fCp (nI (((65536 * kd) + (256 * mt)) + f)) (s (24 + (fAt f t ch))) 24 s).2)).2) rk (nI (((65536 * kd) + (256 * mt)) + f)) (s (24 + (fAt f t ch))) ) gX0_transmit_X0_receiveCopy rfl rfl hd_X0_receiveCopy (by decide) rfl rfl rfl hl.1 rfl (Nat.le_of_ble_eq_true rfl) dX0_transmit_54 (fun H locs hz => ?_)
  refine lv_istore (lv' := [(10, .int ((fCp (nI (((65536 * kd) + (256 * mt)) + f)) (s (24 + (fAt f t ch))) 24 ((fCp (nI (((65536 * kd) + (256 * mt)) + f)) (s (24 + (fAt f t ch))) 24 ((fCp (nI (((65536 * kd) + (256 * mt)) + f)) (s (24 + (fAt f t ch))) 24 s).2)).2)).1)), (9, .int ((fCp (nI (((65536 * kd) + (256 * mt)) + f)) (s (24 + (fAt f t ch))) 24 ((fCp (nI (((65536 * kd) + (256 * mt)) + f)) (s (24 + (fAt f t ch))) 24 s).2)).1)), (8, .int ((fCp (nI (((65536 * kd) + (256 * mt)) + f)) (s (24 + (fAt f t ch))) 24 s).1)), (7, .int (s (24 + (fAt f t ch)))), (6, .int (nI (((65536 * kd) + (256 * mt)) + f))), (0, .ref (a 0)), (1, .int (nI kd)), (2, .int (nI f)), (3, .int (nI t)), (4, .int (nI mt)), (5, .int (nI ch))]) hx hb dX0_transmit_57 hl (by decide) rfl (fun ls hl => ?_)
  refine lv_aload_n hx hb dX0_transmit_59 rfl (lv_at hl 5 rfl) ?_
  refine lv_iload hx hb dX0_transmit_60 (lv_at hl 2 rfl) ?_
  refine lv_iload hx hb dX0_transmit_62 (lv_at hl 1 rfl) ?_
  refine lv_iload hx hb dX0_transmit_64 (lv_at hl 0 rfl) ?_
  refine cNst (k := 2) (As := [.int ((fCp (nI (((65536 * kd) + (256 * mt)) + f)) (s (24 + (fAt f t ch))) 24 s).1), .int ((fCp (nI (((65536 * kd) + (256 * mt)) + f)) (s (24 + (fAt f t ch))) 24 ((fCp (nI (((65536 * kd) + (256 * mt)) + f)) (s (24 + (fAt f t ch))) 24 s).2)).1), .int ((fCp (nI (((65536 * kd) + (256 * mt)) + f)) (s (24 + (fAt f t ch))) 24 ((fCp (nI (((65536 * kd) + (256 * mt)) + f)) (s (24 + (fAt f t ch))) 24 ((fCp (nI (((65536 * kd) + (256 * mt)) + f)) (s (24 + (fAt f t ch))) 24 s).2)).2)).1)]) (rest := [.ref (a 0)]) (v := .int (fMaj ((fCp (nI (((65536 * kd) + (256 * mt)) + f)) (s (24 + (fAt f t ch))) 24 s).1) ((fCp (nI (((65536 * kd) + (256 * mt)) + f)) (s (24 + (fAt f t ch))) 24 ((fCp (nI (((65536 * kd) + (256 * mt)) + f)) (s (24 + (fAt f t ch))) 24 s).2)).1) ((fCp (nI (((65536 * kd) + (256 * mt)) + f)) (s (24 + (fAt f t ch))) 24 ((fCp (nI (((65536 * kd) + (256 * mt)) + f)) (s (24 + (fAt f t ch))) 24 ((fCp (nI (((65536 * kd) + (256 * mt)) + f)) (s (24 + (fAt f t ch))) 24 s).2)).2)).1))) B hz hA (c_X1_majority l D cI cN ((fCp (nI (((65536 * kd) + (256 * mt)) + f)) (s (24 + (fAt f t ch))) 24 s).1) ((fCp (nI (((65536 * kd) + (256 * mt)) + f)) (s (24 + (fAt f t ch))) 24 ((fCp (nI (((65536 * kd) + (256 * mt)) + f)) (s (24 + (fAt f t ch))) 24 s).2)).1) ((fCp (nI (((65536 * kd) + (256 * mt)) + f)) (s (24 + (fAt f t ch))) 24 ((fCp (nI (((65536 * kd) + (256 * mt)) + f)) (s (24 + (fAt f t ch))) 24 ((fCp (nI (((65536 * kd) + (256 * mt)) + f)) (s (24 + (fAt f t ch))) 24 s).2)).2)).1) ) gX0_transmit_X1_majority_n110 rfl (by decide +kernel) (by decide +kernel) (by decide +kernel) rfl hd_X1_majority (by decide) rfl hl.1 rfl (Nat.le_of_ble_eq_true rfl) dX0_transmit_66 (fun H locs hz => ?_)
  refine pz (C := RX0) (T := TX0) (N := 16) (ty := .int) (ws1 := (nW cI a (upd ((fCp (nI (((65536 * kd) + (256 * mt)) + f)) (s (24 + (fAt f t ch))) 24 ((fCp (nI (((65536 * kd) + (256 * mt)) + f)) (s (24 + (fAt f t ch))) 24 ((fCp (nI (((65536 * kd) + (256 * mt)) + f)) (s (24 + (fAt f t ch))) 24 s).2)).2)).2) 8 (fMaj ((fCp (nI (((65536 * kd) + (256 * mt)) + f)) (s (24 + (fAt f t ch))) 24 s).1) ((fCp (nI (((65536 * kd) + (256 * mt)) + f)) (s (24 + (fAt f t ch))) 24 ((fCp (nI (((65536 * kd) + (256 * mt)) + f)) (s (24 + (fAt f t ch))) 24 s).2)).1) ((fCp (nI (((65536 * kd) + (256 * mt)) + f)) (s (24 + (fAt f t ch))) 24 ((fCp (nI (((65536 * kd) + (256 * mt)) + f)) (s (24 + (fAt f t ch))) 24 ((fCp (nI (((65536 * kd) + (256 * mt)) + f)) (s (24 + (fAt f t ch))) 24 s).2)).2)).1))) rk)) B hz hinX0 tyX0_ok nmX0 0 rfl rfl 8 (by decide) lk24 rfl rfl (by decide +kernel) rfl rfl (Nat.le_of_ble_eq_true rfl) (nW_f8 cI a _ _ _) dX0_transmit_69 (fun H locs hz => ?_)
  refine lv_aload_n hx hb dX0_transmit_72 rfl (lv_at hl 5 rfl) ?_
  refine lv_bipush (v := (nI 24)) hx hb dX0_transmit_73 (by decide) ?_
  refine lv_iload hx hb dX0_transmit_75 (lv_at hl 2 rfl) ?_
  refine lv_iload hx hb dX0_transmit_77 (lv_at hl 1 rfl) ?_
  refine lv_ixor hx hb dX0_transmit_79 ?_
  refine lv_iload hx hb dX0_transmit_80 (lv_at hl 2 rfl) ?_
  refine lv_iload hx hb dX0_transmit_82 (lv_at hl 0 rfl) ?_
  refine lv_ixor hx hb dX0_transmit_84 ?_
  refine lv_ior hx hb dX0_transmit_85 ?_
  refine cS (k := 2) (As := [.int ((((fCp (nI (((65536 * kd) + (256 * mt)) + f)) (s (24 + (fAt f t ch))) 24 s).1) ^^^ ((fCp (nI (((65536 * kd) + (256 * mt)) + f)) (s (24 + (fAt f t ch))) 24 ((fCp (nI (((65536 * kd) + (256 * mt)) + f)) (s (24 + (fAt f t ch))) 24 s).2)).1)) ||| (((fCp (nI (((65536 * kd) + (256 * mt)) + f)) (s (24 + (fAt f t ch))) 24 s).1) ^^^ ((fCp (nI (((65536 * kd) + (256 * mt)) + f)) (s (24 + (fAt f t ch))) 24 ((fCp (nI (((65536 * kd) + (256 * mt)) + f)) (s (24 + (fAt f t ch))) 24 ((fCp (nI (((65536 * kd) + (256 * mt)) + f)) (s (24 + (fAt f t ch))) 24 s).2)).2)).1)))]) (rest := [.int (nI 24), .ref (a 0)]) (v := .int (fBc ((((fCp (nI (((65536 * kd) + (256 * mt)) + f)) (s (24 + (fAt f t ch))) 24 s).1) ^^^ ((fCp (nI (((65536 * kd) + (256 * mt)) + f)) (s (24 + (fAt f t ch))) 24 ((fCp (nI (((65536 * kd) + (256 * mt)) + f)) (s (24 + (fAt f t ch))) 24 s).2)).1)) ||| (((fCp (nI (((65536 * kd) + (256 * mt)) + f)) (s (24 + (fAt f t ch))) 24 s).1) ^^^ ((fCp (nI (((65536 * kd) + (256 * mt)) + f)) (s (24 + (fAt f t ch))) 24 ((fCp (nI (((65536 * kd) + (256 * mt)) + f)) (s (24 + (fAt f t ch))) 24 ((fCp (nI (((65536 * kd) + (256 * mt)) + f)) (s (24 + (fAt f t ch))) 24 s).2)).2)).1))))) B hz hA (c_J6_bitCount_0f7a4 l D cI cN ((((fCp (nI (((65536 * kd) + (256 * mt)) + f)) (s (24 + (fAt f t ch))) 24 s).1) ^^^ ((fCp (nI (((65536 * kd) + (256 * mt)) + f)) (s (24 + (fAt f t ch))) 24 ((fCp (nI (((65536 * kd) + (256 * mt)) + f)) (s (24 + (fAt f t ch))) 24 s).2)).1)) ||| (((fCp (nI (((65536 * kd) + (256 * mt)) + f)) (s (24 + (fAt f t ch))) 24 s).1) ^^^ ((fCp (nI (((65536 * kd) + (256 * mt)) + f)) (s (24 + (fAt f t ch))) 24 ((fCp (nI (((65536 * kd) + (256 * mt)) + f)) (s (24 + (fAt f t ch))) 24 ((fCp (nI (((65536 * kd) + (256 * mt)) + f)) (s (24 + (fAt f t ch))) 24 s).2)).2)).1))) ) gX0_transmit_J6_bitCount_0f7a4 rfl hd_J6_bitCount_0f7a4 (by decide) rfl hl.1 rfl (Nat.le_of_ble_eq_true rfl) dX0_transmit_86 (fun H locs hz => ?_)
  refine lv_isub hx hb dX0_transmit_89 ?_
  refine cvt (xUn _ _ _) ?_
  refine pz (C := RX0) (T := TX0) (N := 16) (ty := .int) (ws1 := (nW cI a (upd (upd ((fCp (nI (((65536 * kd) + (256 * mt)) + f)) (s (24 + (fAt f t ch))) 24 ((fCp (nI (((65536 * kd) + (256 * mt)) + f)) (s (24 + (fAt f t ch))) 24 ((fCp (nI (((65536 * kd) + (256 * mt)) + f)) (s (24 + (fAt f t ch))) 24 s).2)).2)).2) 8 (fMaj ((fCp (nI (((65536 * kd) + (256 * mt)) + f)) (s (24 + (fAt f t ch))) 24 s).1) ((fCp (nI (((65536 * kd) + (256 * mt)) + f)) (s (24 + (fAt f t ch))) 24 ((fCp (nI (((65536 * kd) + (256 * mt)) + f)) (s (24 + (fAt f t ch))) 24 s).2)).1) ((fCp (nI (((65536 * kd) + (256 * mt)) + f)) (s (24 + (fAt f t ch))) 24 ((fCp (nI (((65536 * kd) + (256 * mt)) + f)) (s (24 + (fAt f t ch))) 24 ((fCp (nI (((65536 * kd) + (256 * mt)) + f)) (s (24 + (fAt f t ch))) 24 s).2)).2)).1))) 7 (nI (fTu (nI (fTw kd f mt)) (s (24 + fAt f t ch)) s))) rk)) B hz hinX0 tyX0_ok nmX0 0 rfl rfl 7 (by decide) lk21 rfl rfl (by decide +kernel) rfl rfl (Nat.le_of_ble_eq_true rfl) (nW_f7 cI a _ _ _) dX0_transmit_90 (fun H locs hz => ?_)
  refine lv_aload_n hx hb dX0_transmit_93 rfl (lv_at hl 5 rfl) ?_
  refine lv_dup hx hb dX0_transmit_94 rfl ?_
  refine gz (C := RX0) (T := TX0) (N := 16) (v := .int ((upd (upd ((fCp (nI (((65536 * kd) + (256 * mt)) + f)) (s (24 + (fAt f t ch))) 24 ((fCp (nI (((65536 * kd) + (256 * mt)) + f)) (s (24 + (fAt f t ch))) 24 ((fCp (nI (((65536 * kd) + (256 * mt)) + f)) (s (24 + (fAt f t ch))) 24 s).2)).2)).2) 8 (fMaj ((fCp (nI (((65536 * kd) + (256 * mt)) + f)) (s (24 + (fAt f t ch))) 24 s).1) ((fCp (nI (((65536 * kd) + (256 * mt)) + f)) (s (24 + (fAt f t ch))) 24 ((fCp (nI (((65536 * kd) + (256 * mt)) + f)) (s (24 + (fAt f t ch))) 24 s).2)).1) ((fCp (nI (((65536 * kd) + (256 * mt)) + f)) (s (24 + (fAt f t ch))) 24 ((fCp (nI (((65536 * kd) + (256 * mt)) + f)) (s (24 + (fAt f t ch))) 24 ((fCp (nI (((65536 * kd) + (256 * mt)) + f)) (s (24 + (fAt f t ch))) 24 s).2)).2)).1))) 7 (nI (fTu (nI (fTw kd f mt)) (s (24 + fAt f t ch)) s))) 3)) B hz hinX0 0 rfl rfl 3 (by decide) lk58 rfl rfl dX0_transmit_95 ?_
  refine lv_iconst (v := (nI 1)) hx hb dX0_transmit_98 (by decide) ?_
  refine lv_iadd hx hb dX0_transmit_99 ?_
  refine pz (C := RX0) (T := TX0) (N := 16) (ty := .int) (ws1 := (nW cI a (upd (upd (upd ((fCp (nI (((65536 * kd) + (256 * mt)) + f)) (s (24 + (fAt f t ch))) 24 ((fCp (nI (((65536 * kd) + (256 * mt)) + f)) (s (24 + (fAt f t ch))) 24 ((fCp (nI (((65536 * kd) + (256 * mt)) + f)) (s (24 + (fAt f t ch))) 24 s).2)).2)).2) 8 (fMaj ((fCp (nI (((65536 * kd) + (256 * mt)) + f)) (s (24 + (fAt f t ch))) 24 s).1) ((fCp (nI (((65536 * kd) + (256 * mt)) + f)) (s (24 + (fAt f t ch))) 24 ((fCp (nI (((65536 * kd) + (256 * mt)) + f)) (s (24 + (fAt f t ch))) 24 s).2)).1) ((fCp (nI (((65536 * kd) + (256 * mt)) + f)) (s (24 + (fAt f t ch))) 24 ((fCp (nI (((65536 * kd) + (256 * mt)) + f)) (s (24 + (fAt f t ch))) 24 ((fCp (nI (((65536 * kd) + (256 * mt)) + f)) (s (24 + (fAt f t ch))) 24 s).2)).2)).1))) 7 (nI (fTu (nI (fTw kd f mt)) (s (24 + fAt f t ch)) s))) 3 (((upd (upd ((fCp (nI (((65536 * kd) + (256 * mt)) + f)) (s (24 + (fAt f t ch))) 24 ((fCp (nI (((65536 * kd) + (256 * mt)) + f)) (s (24 + (fAt f t ch))) 24 ((fCp (nI (((65536 * kd) + (256 * mt)) + f)) (s (24 + (fAt f t ch))) 24 s).2)).2)).2) 8 (fMaj ((fCp (nI (((65536 * kd) + (256 * mt)) + f)) (s (24 + (fAt f t ch))) 24 s).1) ((fCp (nI (((65536 * kd) + (256 * mt)) + f)) (s (24 + (fAt f t ch))) 24 ((fCp (nI (((65536 * kd) + (256 * mt)) + f)) (s (24 + (fAt f t ch))) 24 s).2)).1) ((fCp (nI (((65536 * kd) + (256 * mt)) + f)) (s (24 + (fAt f t ch))) 24 ((fCp (nI (((65536 * kd) + (256 * mt)) + f)) (s (24 + (fAt f t ch))) 24 ((fCp (nI (((65536 * kd) + (256 * mt)) + f)) (s (24 + (fAt f t ch))) 24 s).2)).2)).1))) 7 (nI (fTu (nI (fTw kd f mt)) (s (24 + fAt f t ch)) s))) 3) + (nI 1))) rk)) B hz hinX0 tyX0_ok nmX0 0 rfl rfl 3 (by decide) lk58 rfl rfl (by decide +kernel) rfl rfl (Nat.le_of_ble_eq_true rfl) (nW_f3 cI a _ _ _) dX0_transmit_100 (fun H locs hz => ?_)
  refine lv_aload_n hx hb dX0_transmit_103 rfl (lv_at hl 5 rfl) ?_
  refine gz (C := RX0) (T := TX0) (N := 16) (v := .int ((upd (upd (upd ((fCp (nI (((65536 * kd) + (256 * mt)) + f)) (s (24 + (fAt f t ch))) 24 ((fCp (nI (((65536 * kd) + (256 * mt)) + f)) (s (24 + (fAt f t ch))) 24 ((fCp (nI (((65536 * kd) + (256 * mt)) + f)) (s (24 + (fAt f t ch))) 24 s).2)).2)).2) 8 (fMaj ((fCp (nI (((65536 * kd) + (256 * mt)) + f)) (s (24 + (fAt f t ch))) 24 s).1) ((fCp (nI (((65536 * kd) + (256 * mt)) + f)) (s (24 + (fAt f t ch))) 24 ((fCp (nI (((65536 * kd) + (256 * mt)) + f)) (s (24 + (fAt f t ch))) 24 s).2)).1) ((fCp (nI (((65536 * kd) + (256 * mt)) + f)) (s (24 + (fAt f t ch))) 24 ((fCp (nI (((65536 * kd) + (256 * mt)) + f)) (s (24 + (fAt f t ch))) 24 ((fCp (nI (((65536 * kd) + (256 * mt)) + f)) (s (24 + (fAt f t ch))) 24 s).2)).2)).1))) 7 (nI (fTu (nI (fTw kd f mt)) (s (24 + fAt f t ch)) s))) 3 (((upd (upd ((fCp (nI (((65536 * kd) + (256 * mt)) + f)) (s (24 + (fAt f t ch))) 24 ((fCp (nI (((65536 * kd) + (256 * mt)) + f)) (s (24 + (fAt f t ch))) 24 ((fCp (nI (((65536 * kd) + (256 * mt)) + f)) (s (24 + (fAt f t ch))) 24 s).2)).2)).2) 8 (fMaj ((fCp (nI (((65536 * kd) + (256 * mt)) + f)) (s (24 + (fAt f t ch))) 24 s).1) ((fCp (nI (((65536 * kd) + (256 * mt)) + f)) (s (24 + (fAt f t ch))) 24 ((fCp (nI (((65536 * kd) + (256 * mt)) + f)) (s (24 + (fAt f t ch))) 24 s).2)).1) ((fCp (nI (((65536 * kd) + (256 * mt)) + f)) (s (24 + (fAt f t ch))) 24 ((fCp (nI (((65536 * kd) + (256 * mt)) + f)) (s (24 + (fAt f t ch))) 24 ((fCp (nI (((65536 * kd) + (256 * mt)) + f)) (s (24 + (fAt f t ch))) 24 s).2)).2)).1))) 7 (nI (fTu (nI (fTw kd f mt)) (s (24 + fAt f t ch)) s))) 3) + (nI 1))) 8)) B hz hinX0 0 rfl rfl 8 (by decide) lk24 rfl rfl dX0_transmit_104 ?_
  refine lv_iload hx hb dX0_transmit_107 (lv_at hl 4 rfl) ?_
  refine lv_icmp_eq (tgt := 114) hx hb dX0_transmit_109 (by decide) (fun c109 => ?_) (fun c109 => ?_)
  · refine lv_aload_n hx hb dX0_transmit_114 rfl (lv_at hl 5 rfl) ?_
    refine lv_dup hx hb dX0_transmit_115 rfl ?_
    refine gz (C := RX0) (T := TX0) (N := 16) (v := .int ((upd (upd (upd ((fCp (nI (((65536 * kd) + (256 * mt)) + f)) (s (24 + (fAt f t ch))) 24 ((fCp (nI (((65536 * kd) + (256 * mt)) + f)) (s (24 + (fAt f t ch))) 24 ((fCp (nI (((65536 * kd) + (256 * mt)) + f)) (s (24 + (fAt f t ch))) 24 s).2)).2)).2) 8 (fMaj ((fCp (nI (((65536 * kd) + (256 * mt)) + f)) (s (24 + (fAt f t ch))) 24 s).1) ((fCp (nI (((65536 * kd) + (256 * mt)) + f)) (s (24 + (fAt f t ch))) 24 ((fCp (nI (((65536 * kd) + (256 * mt)) + f)) (s (24 + (fAt f t ch))) 24 s).2)).1) ((fCp (nI (((65536 * kd) + (256 * mt)) + f)) (s (24 + (fAt f t ch))) 24 ((fCp (nI (((65536 * kd) + (256 * mt)) + f)) (s (24 + (fAt f t ch))) 24 ((fCp (nI (((65536 * kd) + (256 * mt)) + f)) (s (24 + (fAt f t ch))) 24 s).2)).2)).1))) 7 (nI (fTu (nI (fTw kd f mt)) (s (24 + fAt f t ch)) s))) 3 (((upd (upd ((fCp (nI (((65536 * kd) + (256 * mt)) + f)) (s (24 + (fAt f t ch))) 24 ((fCp (nI (((65536 * kd) + (256 * mt)) + f)) (s (24 + (fAt f t ch))) 24 ((fCp (nI (((65536 * kd) + (256 * mt)) + f)) (s (24 + (fAt f t ch))) 24 s).2)).2)).2) 8 (fMaj ((fCp (nI (((65536 * kd) + (256 * mt)) + f)) (s (24 + (fAt f t ch))) 24 s).1) ((fCp (nI (((65536 * kd) + (256 * mt)) + f)) (s (24 + (fAt f t ch))) 24 ((fCp (nI (((65536 * kd) + (256 * mt)) + f)) (s (24 + (fAt f t ch))) 24 s).2)).1) ((fCp (nI (((65536 * kd) + (256 * mt)) + f)) (s (24 + (fAt f t ch))) 24 ((fCp (nI (((65536 * kd) + (256 * mt)) + f)) (s (24 + (fAt f t ch))) 24 ((fCp (nI (((65536 * kd) + (256 * mt)) + f)) (s (24 + (fAt f t ch))) 24 s).2)).2)).1))) 7 (nI (fTu (nI (fTw kd f mt)) (s (24 + fAt f t ch)) s))) 3) + (nI 1))) 4)) B hz hinX0 0 rfl rfl 4 (by decide) lk61 rfl rfl dX0_transmit_116 ?_
    refine lv_iconst (v := (nI 1)) hx hb dX0_transmit_119 (by decide) ?_
    refine lv_iadd hx hb dX0_transmit_120 ?_
    refine pz (C := RX0) (T := TX0) (N := 16) (ty := .int) (ws1 := (nW cI a (upd (upd (upd (upd ((fCp (nI (((65536 * kd) + (256 * mt)) + f)) (s (24 + (fAt f t ch))) 24 ((fCp (nI (((65536 * kd) + (256 * mt)) + f)) (s (24 + (fAt f t ch))) 24 ((fCp (nI (((65536 * kd) + (256 * mt)) + f)) (s (24 + (fAt f t ch))) 24 s).2)).2)).2) 8 (fMaj ((fCp (nI (((65536 * kd) + (256 * mt)) + f)) (s (24 + (fAt f t ch))) 24 s).1) ((fCp (nI (((65536 * kd) + (256 * mt)) + f)) (s (24 + (fAt f t ch))) 24 ((fCp (nI (((65536 * kd) + (256 * mt)) + f)) (s (24 + (fAt f t ch))) 24 s).2)).1) ((fCp (nI (((65536 * kd) + (256 * mt)) + f)) (s (24 + (fAt f t ch))) 24 ((fCp (nI (((65536 * kd) + (256 * mt)) + f)) (s (24 + (fAt f t ch))) 24 ((fCp (nI (((65536 * kd) + (256 * mt)) + f)) (s (24 + (fAt f t ch))) 24 s).2)).2)).1))) 7 (nI (fTu (nI (fTw kd f mt)) (s (24 + fAt f t ch)) s))) 3 (((upd (upd ((fCp (nI (((65536 * kd) + (256 * mt)) + f)) (s (24 + (fAt f t ch))) 24 ((fCp (nI (((65536 * kd) + (256 * mt)) + f)) (s (24 + (fAt f t ch))) 24 ((fCp (nI (((65536 * kd) + (256 * mt)) + f)) (s (24 + (fAt f t ch))) 24 s).2)).2)).2) 8 (fMaj ((fCp (nI (((65536 * kd) + (256 * mt)) + f)) (s (24 + (fAt f t ch))) 24 s).1) ((fCp (nI (((65536 * kd) + (256 * mt)) + f)) (s (24 + (fAt f t ch))) 24 ((fCp (nI (((65536 * kd) + (256 * mt)) + f)) (s (24 + (fAt f t ch))) 24 s).2)).1) ((fCp (nI (((65536 * kd) + (256 * mt)) + f)) (s (24 + (fAt f t ch))) 24 ((fCp (nI (((65536 * kd) + (256 * mt)) + f)) (s (24 + (fAt f t ch))) 24 ((fCp (nI (((65536 * kd) + (256 * mt)) + f)) (s (24 + (fAt f t ch))) 24 s).2)).2)).1))) 7 (nI (fTu (nI (fTw kd f mt)) (s (24 + fAt f t ch)) s))) 3) + (nI 1))) 4 (((upd (upd (upd ((fCp (nI (((65536 * kd) + (256 * mt)) + f)) (s (24 + (fAt f t ch))) 24 ((fCp (nI (((65536 * kd) + (256 * mt)) + f)) (s (24 + (fAt f t ch))) 24 ((fCp (nI (((65536 * kd) + (256 * mt)) + f)) (s (24 + (fAt f t ch))) 24 s).2)).2)).2) 8 (fMaj ((fCp (nI (((65536 * kd) + (256 * mt)) + f)) (s (24 + (fAt f t ch))) 24 s).1) ((fCp (nI (((65536 * kd) + (256 * mt)) + f)) (s (24 + (fAt f t ch))) 24 ((fCp (nI (((65536 * kd) + (256 * mt)) + f)) (s (24 + (fAt f t ch))) 24 s).2)).1) ((fCp (nI (((65536 * kd) + (256 * mt)) + f)) (s (24 + (fAt f t ch))) 24 ((fCp (nI (((65536 * kd) + (256 * mt)) + f)) (s (24 + (fAt f t ch))) 24 ((fCp (nI (((65536 * kd) + (256 * mt)) + f)) (s (24 + (fAt f t ch))) 24 s).2)).2)).1))) 7 (nI (fTu (nI (fTw kd f mt)) (s (24 + fAt f t ch)) s))) 3 (((upd (upd ((fCp (nI (((65536 * kd) + (256 * mt)) + f)) (s (24 + (fAt f t ch))) 24 ((fCp (nI (((65536 * kd) + (256 * mt)) + f)) (s (24 + (fAt f t ch))) 24 ((fCp (nI (((65536 * kd) + (256 * mt)) + f)) (s (24 + (fAt f t ch))) 24 s).2)).2)).2) 8 (fMaj ((fCp (nI (((65536 * kd) + (256 * mt)) + f)) (s (24 + (fAt f t ch))) 24 s).1) ((fCp (nI (((65536 * kd) + (256 * mt)) + f)) (s (24 + (fAt f t ch))) 24 ((fCp (nI (((65536 * kd) + (256 * mt)) + f)) (s (24 + (fAt f t ch))) 24 s).2)).1) ((fCp (nI (((65536 * kd) + (256 * mt)) + f)) (s (24 + (fAt f t ch))) 24 ((fCp (nI (((65536 * kd) + (256 * mt)) + f)) (s (24 + (fAt f t ch))) 24 ((fCp (nI (((65536 * kd) + (256 * mt)) + f)) (s (24 + (fAt f t ch))) 24 s).2)).2)).1))) 7 (nI (fTu (nI (fTw kd f mt)) (s (24 + fAt f t ch)) s))) 3) + (nI 1))) 4) + (nI 1))) rk)) B hz hinX0 tyX0_ok nmX0 0 rfl rfl 4 (by decide) lk61 rfl rfl (by decide +kernel) rfl rfl (Nat.le_of_ble_eq_true rfl) (nW_f4 cI a _ _ _) dX0_transmit_121 (fun H locs hz => ?_)
    refine lv_aload_n hx hb dX0_transmit_124 rfl (lv_at hl 5 rfl) ?_
    refine gz (C := RX0) (T := TX0) (N := 16) (v := .ref (a 5)) B hz hinX0 0 rfl rfl 13 (by decide) lk40 rfl rfl dX0_transmit_125 ?_
    refine lv_iload_n hx hb dX0_transmit_128 rfl (lv_at hl 8 rfl) ?_
    refine lv_iload_n hx hb dX0_transmit_129 rfl (lv_at hl 7 rfl) ?_
    refine lv_iload hx hb dX0_transmit_130 (lv_at hl 10 rfl) ?_
    refine cNst (k := 2) (As := [.int (nI t), .int (nI f), .int (nI ch)]) (rest := [.ref (a 5)]) (v := .int (nI (fAt t f ch))) B hz hA (c_X1_cell l D cI cN t f ch ) gX0_transmit_X1_cell_n103 rfl (by decide +kernel) (by decide +kernel) (by decide +kernel) rfl hd_X1_cell (by decide) rfl hl.1 rfl (Nat.le_of_ble_eq_true rfl) dX0_transmit_132 (fun H locs hz => ?_)
    refine lv_aload_n hx hb dX0_transmit_135 rfl (lv_at hl 5 rfl) ?_
    refine gz (C := RX0) (T := TX0) (N := 16) (v := .int ((upd (upd (upd (upd ((fCp (nI (((65536 * kd) + (256 * mt)) + f)) (s (24 + (fAt f t ch))) 24 ((fCp (nI (((65536 * kd) + (256 * mt)) + f)) (s (24 + (fAt f t ch))) 24 ((fCp (nI (((65536 * kd) + (256 * mt)) + f)) (s (24 + (fAt f t ch))) 24 s).2)).2)).2) 8 (fMaj ((fCp (nI (((65536 * kd) + (256 * mt)) + f)) (s (24 + (fAt f t ch))) 24 s).1) ((fCp (nI (((65536 * kd) + (256 * mt)) + f)) (s (24 + (fAt f t ch))) 24 ((fCp (nI (((65536 * kd) + (256 * mt)) + f)) (s (24 + (fAt f t ch))) 24 s).2)).1) ((fCp (nI (((65536 * kd) + (256 * mt)) + f)) (s (24 + (fAt f t ch))) 24 ((fCp (nI (((65536 * kd) + (256 * mt)) + f)) (s (24 + (fAt f t ch))) 24 ((fCp (nI (((65536 * kd) + (256 * mt)) + f)) (s (24 + (fAt f t ch))) 24 s).2)).2)).1))) 7 (nI (fTu (nI (fTw kd f mt)) (s (24 + fAt f t ch)) s))) 3 (((upd (upd ((fCp (nI (((65536 * kd) + (256 * mt)) + f)) (s (24 + (fAt f t ch))) 24 ((fCp (nI (((65536 * kd) + (256 * mt)) + f)) (s (24 + (fAt f t ch))) 24 ((fCp (nI (((65536 * kd) + (256 * mt)) + f)) (s (24 + (fAt f t ch))) 24 s).2)).2)).2) 8 (fMaj ((fCp (nI (((65536 * kd) + (256 * mt)) + f)) (s (24 + (fAt f t ch))) 24 s).1) ((fCp (nI (((65536 * kd) + (256 * mt)) + f)) (s (24 + (fAt f t ch))) 24 ((fCp (nI (((65536 * kd) + (256 * mt)) + f)) (s (24 + (fAt f t ch))) 24 s).2)).1) ((fCp (nI (((65536 * kd) + (256 * mt)) + f)) (s (24 + (fAt f t ch))) 24 ((fCp (nI (((65536 * kd) + (256 * mt)) + f)) (s (24 + (fAt f t ch))) 24 ((fCp (nI (((65536 * kd) + (256 * mt)) + f)) (s (24 + (fAt f t ch))) 24 s).2)).2)).1))) 7 (nI (fTu (nI (fTw kd f mt)) (s (24 + fAt f t ch)) s))) 3) + (nI 1))) 4 (((upd (upd (upd ((fCp (nI (((65536 * kd) + (256 * mt)) + f)) (s (24 + (fAt f t ch))) 24 ((fCp (nI (((65536 * kd) + (256 * mt)) + f)) (s (24 + (fAt f t ch))) 24 ((fCp (nI (((65536 * kd) + (256 * mt)) + f)) (s (24 + (fAt f t ch))) 24 s).2)).2)).2) 8 (fMaj ((fCp (nI (((65536 * kd) + (256 * mt)) + f)) (s (24 + (fAt f t ch))) 24 s).1) ((fCp (nI (((65536 * kd) + (256 * mt)) + f)) (s (24 + (fAt f t ch))) 24 ((fCp (nI (((65536 * kd) + (256 * mt)) + f)) (s (24 + (fAt f t ch))) 24 s).2)).1) ((fCp (nI (((65536 * kd) + (256 * mt)) + f)) (s (24 + (fAt f t ch))) 24 ((fCp (nI (((65536 * kd) + (256 * mt)) + f)) (s (24 + (fAt f t ch))) 24 ((fCp (nI (((65536 * kd) + (256 * mt)) + f)) (s (24 + (fAt f t ch))) 24 s).2)).2)).1))) 7 (nI (fTu (nI (fTw kd f mt)) (s (24 + fAt f t ch)) s))) 3 (((upd (upd ((fCp (nI (((65536 * kd) + (256 * mt)) + f)) (s (24 + (fAt f t ch))) 24 ((fCp (nI (((65536 * kd) + (256 * mt)) + f)) (s (24 + (fAt f t ch))) 24 ((fCp (nI (((65536 * kd) + (256 * mt)) + f)) (s (24 + (fAt f t ch))) 24 s).2)).2)).2) 8 (fMaj ((fCp (nI (((65536 * kd) + (256 * mt)) + f)) (s (24 + (fAt f t ch))) 24 s).1) ((fCp (nI (((65536 * kd) + (256 * mt)) + f)) (s (24 + (fAt f t ch))) 24 ((fCp (nI (((65536 * kd) + (256 * mt)) + f)) (s (24 + (fAt f t ch))) 24 s).2)).1) ((fCp (nI (((65536 * kd) + (256 * mt)) + f)) (s (24 + (fAt f t ch))) 24 ((fCp (nI (((65536 * kd) + (256 * mt)) + f)) (s (24 + (fAt f t ch))) 24 ((fCp (nI (((65536 * kd) + (256 * mt)) + f)) (s (24 + (fAt f t ch))) 24 s).2)).2)).1))) 7 (nI (fTu (nI (fTw kd f mt)) (s (24 + fAt f t ch)) s))) 3) + (nI 1))) 4) + (nI 1))) 7)) B hz hinX0 0 rfl rfl 7 (by decide) lk21 rfl rfl dX0_transmit_136 ?_
    refine lv_bipush (v := (nI 30)) hx hb dX0_transmit_139 (by decide) ?_
    refine lv_imul hx hb dX0_transmit_141 ?_
    refine lv_bipush (v := (nI 24)) hx hb dX0_transmit_142 (by decide) ?_
    refine lv_idiv hx hb dX0_transmit_144 (by decide) ?_
    refine istz (n := 200) (j := (fAt t f ch)) (ws1 := (nW cI a (upd (upd (upd (upd (upd ((fCp (nI (((65536 * kd) + (256 * mt)) + f)) (s (24 + (fAt f t ch))) 24 ((fCp (nI (((65536 * kd) + (256 * mt)) + f)) (s (24 + (fAt f t ch))) 24 ((fCp (nI (((65536 * kd) + (256 * mt)) + f)) (s (24 + (fAt f t ch))) 24 s).2)).2)).2) 8 (fMaj ((fCp (nI (((65536 * kd) + (256 * mt)) + f)) (s (24 + (fAt f t ch))) 24 s).1) ((fCp (nI (((65536 * kd) + (256 * mt)) + f)) (s (24 + (fAt f t ch))) 24 ((fCp (nI (((65536 * kd) + (256 * mt)) + f)) (s (24 + (fAt f t ch))) 24 s).2)).1) ((fCp (nI (((65536 * kd) + (256 * mt)) + f)) (s (24 + (fAt f t ch))) 24 ((fCp (nI (((65536 * kd) + (256 * mt)) + f)) (s (24 + (fAt f t ch))) 24 ((fCp (nI (((65536 * kd) + (256 * mt)) + f)) (s (24 + (fAt f t ch))) 24 s).2)).2)).1))) 7 (nI (fTu (nI (fTw kd f mt)) (s (24 + fAt f t ch)) s))) 3 (((upd (upd ((fCp (nI (((65536 * kd) + (256 * mt)) + f)) (s (24 + (fAt f t ch))) 24 ((fCp (nI (((65536 * kd) + (256 * mt)) + f)) (s (24 + (fAt f t ch))) 24 ((fCp (nI (((65536 * kd) + (256 * mt)) + f)) (s (24 + (fAt f t ch))) 24 s).2)).2)).2) 8 (fMaj ((fCp (nI (((65536 * kd) + (256 * mt)) + f)) (s (24 + (fAt f t ch))) 24 s).1) ((fCp (nI (((65536 * kd) + (256 * mt)) + f)) (s (24 + (fAt f t ch))) 24 ((fCp (nI (((65536 * kd) + (256 * mt)) + f)) (s (24 + (fAt f t ch))) 24 s).2)).1) ((fCp (nI (((65536 * kd) + (256 * mt)) + f)) (s (24 + (fAt f t ch))) 24 ((fCp (nI (((65536 * kd) + (256 * mt)) + f)) (s (24 + (fAt f t ch))) 24 ((fCp (nI (((65536 * kd) + (256 * mt)) + f)) (s (24 + (fAt f t ch))) 24 s).2)).2)).1))) 7 (nI (fTu (nI (fTw kd f mt)) (s (24 + fAt f t ch)) s))) 3) + (nI 1))) 4 (((upd (upd (upd ((fCp (nI (((65536 * kd) + (256 * mt)) + f)) (s (24 + (fAt f t ch))) 24 ((fCp (nI (((65536 * kd) + (256 * mt)) + f)) (s (24 + (fAt f t ch))) 24 ((fCp (nI (((65536 * kd) + (256 * mt)) + f)) (s (24 + (fAt f t ch))) 24 s).2)).2)).2) 8 (fMaj ((fCp (nI (((65536 * kd) + (256 * mt)) + f)) (s (24 + (fAt f t ch))) 24 s).1) ((fCp (nI (((65536 * kd) + (256 * mt)) + f)) (s (24 + (fAt f t ch))) 24 ((fCp (nI (((65536 * kd) + (256 * mt)) + f)) (s (24 + (fAt f t ch))) 24 s).2)).1) ((fCp (nI (((65536 * kd) + (256 * mt)) + f)) (s (24 + (fAt f t ch))) 24 ((fCp (nI (((65536 * kd) + (256 * mt)) + f)) (s (24 + (fAt f t ch))) 24 ((fCp (nI (((65536 * kd) + (256 * mt)) + f)) (s (24 + (fAt f t ch))) 24 s).2)).2)).1))) 7 (nI (fTu (nI (fTw kd f mt)) (s (24 + fAt f t ch)) s))) 3 (((upd (upd ((fCp (nI (((65536 * kd) + (256 * mt)) + f)) (s (24 + (fAt f t ch))) 24 ((fCp (nI (((65536 * kd) + (256 * mt)) + f)) (s (24 + (fAt f t ch))) 24 ((fCp (nI (((65536 * kd) + (256 * mt)) + f)) (s (24 + (fAt f t ch))) 24 s).2)).2)).2) 8 (fMaj ((fCp (nI (((65536 * kd) + (256 * mt)) + f)) (s (24 + (fAt f t ch))) 24 s).1) ((fCp (nI (((65536 * kd) + (256 * mt)) + f)) (s (24 + (fAt f t ch))) 24 ((fCp (nI (((65536 * kd) + (256 * mt)) + f)) (s (24 + (fAt f t ch))) 24 s).2)).1) ((fCp (nI (((65536 * kd) + (256 * mt)) + f)) (s (24 + (fAt f t ch))) 24 ((fCp (nI (((65536 * kd) + (256 * mt)) + f)) (s (24 + (fAt f t ch))) 24 ((fCp (nI (((65536 * kd) + (256 * mt)) + f)) (s (24 + (fAt f t ch))) 24 s).2)).2)).1))) 7 (nI (fTu (nI (fTw kd f mt)) (s (24 + fAt f t ch)) s))) 3) + (nI 1))) 4) + (nI 1))) (224 + (fAt t f ch)) ((((upd (upd (upd (upd ((fCp (nI (((65536 * kd) + (256 * mt)) + f)) (s (24 + (fAt f t ch))) 24 ((fCp (nI (((65536 * kd) + (256 * mt)) + f)) (s (24 + (fAt f t ch))) 24 ((fCp (nI (((65536 * kd) + (256 * mt)) + f)) (s (24 + (fAt f t ch))) 24 s).2)).2)).2) 8 (fMaj ((fCp (nI (((65536 * kd) + (256 * mt)) + f)) (s (24 + (fAt f t ch))) 24 s).1) ((fCp (nI (((65536 * kd) + (256 * mt)) + f)) (s (24 + (fAt f t ch))) 24 ((fCp (nI (((65536 * kd) + (256 * mt)) + f)) (s (24 + (fAt f t ch))) 24 s).2)).1) ((fCp (nI (((65536 * kd) + (256 * mt)) + f)) (s (24 + (fAt f t ch))) 24 ((fCp (nI (((65536 * kd) + (256 * mt)) + f)) (s (24 + (fAt f t ch))) 24 ((fCp (nI (((65536 * kd) + (256 * mt)) + f)) (s (24 + (fAt f t ch))) 24 s).2)).2)).1))) 7 (nI (fTu (nI (fTw kd f mt)) (s (24 + fAt f t ch)) s))) 3 (((upd (upd ((fCp (nI (((65536 * kd) + (256 * mt)) + f)) (s (24 + (fAt f t ch))) 24 ((fCp (nI (((65536 * kd) + (256 * mt)) + f)) (s (24 + (fAt f t ch))) 24 ((fCp (nI (((65536 * kd) + (256 * mt)) + f)) (s (24 + (fAt f t ch))) 24 s).2)).2)).2) 8 (fMaj ((fCp (nI (((65536 * kd) + (256 * mt)) + f)) (s (24 + (fAt f t ch))) 24 s).1) ((fCp (nI (((65536 * kd) + (256 * mt)) + f)) (s (24 + (fAt f t ch))) 24 ((fCp (nI (((65536 * kd) + (256 * mt)) + f)) (s (24 + (fAt f t ch))) 24 s).2)).1) ((fCp (nI (((65536 * kd) + (256 * mt)) + f)) (s (24 + (fAt f t ch))) 24 ((fCp (nI (((65536 * kd) + (256 * mt)) + f)) (s (24 + (fAt f t ch))) 24 ((fCp (nI (((65536 * kd) + (256 * mt)) + f)) (s (24 + (fAt f t ch))) 24 s).2)).2)).1))) 7 (nI (fTu (nI (fTw kd f mt)) (s (24 + fAt f t ch)) s))) 3) + (nI 1))) 4 (((upd (upd (upd ((fCp (nI (((65536 * kd) + (256 * mt)) + f)) (s (24 + (fAt f t ch))) 24 ((fCp (nI (((65536 * kd) + (256 * mt)) + f)) (s (24 + (fAt f t ch))) 24 ((fCp (nI (((65536 * kd) + (256 * mt)) + f)) (s (24 + (fAt f t ch))) 24 s).2)).2)).2) 8 (fMaj ((fCp (nI (((65536 * kd) + (256 * mt)) + f)) (s (24 + (fAt f t ch))) 24 s).1) ((fCp (nI (((65536 * kd) + (256 * mt)) + f)) (s (24 + (fAt f t ch))) 24 ((fCp (nI (((65536 * kd) + (256 * mt)) + f)) (s (24 + (fAt f t ch))) 24 s).2)).1) ((fCp (nI (((65536 * kd) + (256 * mt)) + f)) (s (24 + (fAt f t ch))) 24 ((fCp (nI (((65536 * kd) + (256 * mt)) + f)) (s (24 + (fAt f t ch))) 24 ((fCp (nI (((65536 * kd) + (256 * mt)) + f)) (s (24 + (fAt f t ch))) 24 s).2)).2)).1))) 7 (nI (fTu (nI (fTw kd f mt)) (s (24 + fAt f t ch)) s))) 3 (((upd (upd ((fCp (nI (((65536 * kd) + (256 * mt)) + f)) (s (24 + (fAt f t ch))) 24 ((fCp (nI (((65536 * kd) + (256 * mt)) + f)) (s (24 + (fAt f t ch))) 24 ((fCp (nI (((65536 * kd) + (256 * mt)) + f)) (s (24 + (fAt f t ch))) 24 s).2)).2)).2) 8 (fMaj ((fCp (nI (((65536 * kd) + (256 * mt)) + f)) (s (24 + (fAt f t ch))) 24 s).1) ((fCp (nI (((65536 * kd) + (256 * mt)) + f)) (s (24 + (fAt f t ch))) 24 ((fCp (nI (((65536 * kd) + (256 * mt)) + f)) (s (24 + (fAt f t ch))) 24 s).2)).1) ((fCp (nI (((65536 * kd) + (256 * mt)) + f)) (s (24 + (fAt f t ch))) 24 ((fCp (nI (((65536 * kd) + (256 * mt)) + f)) (s (24 + (fAt f t ch))) 24 ((fCp (nI (((65536 * kd) + (256 * mt)) + f)) (s (24 + (fAt f t ch))) 24 s).2)).2)).1))) 7 (nI (fTu (nI (fTw kd f mt)) (s (24 + fAt f t ch)) s))) 3) + (nI 1))) 4) + (nI 1))) 7) * (nI 30)) / (nI 24))) rk)) B hz 5 rfl (by have hat := fAt_lt hf ht hc; have hat2 := fAt_lt ht hf hc; omega) (by decide) (nW_a5 cI a _ _ (by have hat := fAt_lt hf ht hc; have hat2 := fAt_lt ht hf hc; omega) _) dX0_transmit_145 (fun H locs hz => ?_)
    refine lv_aload_n hx hb dX0_transmit_146 rfl (lv_at hl 5 rfl) ?_
    refine gz (C := RX0) (T := TX0) (N := 16) (v := .ref (a 6)) B hz hinX0 0 rfl rfl 14 (by decide) lk43 rfl rfl dX0_transmit_147 ?_
    refine lv_iload_n hx hb dX0_transmit_150 rfl (lv_at hl 8 rfl) ?_
    refine lv_iload_n hx hb dX0_transmit_151 rfl (lv_at hl 7 rfl) ?_
    refine lv_iload hx hb dX0_transmit_152 (lv_at hl 10 rfl) ?_
    refine cNst (k := 2) (As := [.int (nI t), .int (nI f), .int (nI ch)]) (rest := [.ref (a 6)]) (v := .int (nI (fAt t f ch))) B hz hA (c_X1_cell l D cI cN t f ch ) gX0_transmit_X1_cell_n103 rfl (by decide +kernel) (by decide +kernel) (by decide +kernel) rfl hd_X1_cell (by decide) rfl hl.1 rfl (Nat.le_of_ble_eq_true rfl) dX0_transmit_154 (fun H locs hz => ?_)
    refine lv_aload_n hx hb dX0_transmit_157 rfl (lv_at hl 5 rfl) ?_
    refine gz (C := RX0) (T := TX0) (N := 16) (v := .int ((upd (upd (upd (upd (upd ((fCp (nI (((65536 * kd) + (256 * mt)) + f)) (s (24 + (fAt f t ch))) 24 ((fCp (nI (((65536 * kd) + (256 * mt)) + f)) (s (24 + (fAt f t ch))) 24 ((fCp (nI (((65536 * kd) + (256 * mt)) + f)) (s (24 + (fAt f t ch))) 24 s).2)).2)).2) 8 (fMaj ((fCp (nI (((65536 * kd) + (256 * mt)) + f)) (s (24 + (fAt f t ch))) 24 s).1) ((fCp (nI (((65536 * kd) + (256 * mt)) + f)) (s (24 + (fAt f t ch))) 24 ((fCp (nI (((65536 * kd) + (256 * mt)) + f)) (s (24 + (fAt f t ch))) 24 s).2)).1) ((fCp (nI (((65536 * kd) + (256 * mt)) + f)) (s (24 + (fAt f t ch))) 24 ((fCp (nI (((65536 * kd) + (256 * mt)) + f)) (s (24 + (fAt f t ch))) 24 ((fCp (nI (((65536 * kd) + (256 * mt)) + f)) (s (24 + (fAt f t ch))) 24 s).2)).2)).1))) 7 (nI (fTu (nI (fTw kd f mt)) (s (24 + fAt f t ch)) s))) 3 (((upd (upd ((fCp (nI (((65536 * kd) + (256 * mt)) + f)) (s (24 + (fAt f t ch))) 24 ((fCp (nI (((65536 * kd) + (256 * mt)) + f)) (s (24 + (fAt f t ch))) 24 ((fCp (nI (((65536 * kd) + (256 * mt)) + f)) (s (24 + (fAt f t ch))) 24 s).2)).2)).2) 8 (fMaj ((fCp (nI (((65536 * kd) + (256 * mt)) + f)) (s (24 + (fAt f t ch))) 24 s).1) ((fCp (nI (((65536 * kd) + (256 * mt)) + f)) (s (24 + (fAt f t ch))) 24 ((fCp (nI (((65536 * kd) + (256 * mt)) + f)) (s (24 + (fAt f t ch))) 24 s).2)).1) ((fCp (nI (((65536 * kd) + (256 * mt)) + f)) (s (24 + (fAt f t ch))) 24 ((fCp (nI (((65536 * kd) + (256 * mt)) + f)) (s (24 + (fAt f t ch))) 24 ((fCp (nI (((65536 * kd) + (256 * mt)) + f)) (s (24 + (fAt f t ch))) 24 s).2)).2)).1))) 7 (nI (fTu (nI (fTw kd f mt)) (s (24 + fAt f t ch)) s))) 3) + (nI 1))) 4 (((upd (upd (upd ((fCp (nI (((65536 * kd) + (256 * mt)) + f)) (s (24 + (fAt f t ch))) 24 ((fCp (nI (((65536 * kd) + (256 * mt)) + f)) (s (24 + (fAt f t ch))) 24 ((fCp (nI (((65536 * kd) + (256 * mt)) + f)) (s (24 + (fAt f t ch))) 24 s).2)).2)).2) 8 (fMaj ((fCp (nI (((65536 * kd) + (256 * mt)) + f)) (s (24 + (fAt f t ch))) 24 s).1) ((fCp (nI (((65536 * kd) + (256 * mt)) + f)) (s (24 + (fAt f t ch))) 24 ((fCp (nI (((65536 * kd) + (256 * mt)) + f)) (s (24 + (fAt f t ch))) 24 s).2)).1) ((fCp (nI (((65536 * kd) + (256 * mt)) + f)) (s (24 + (fAt f t ch))) 24 ((fCp (nI (((65536 * kd) + (256 * mt)) + f)) (s (24 + (fAt f t ch))) 24 ((fCp (nI (((65536 * kd) + (256 * mt)) + f)) (s (24 + (fAt f t ch))) 24 s).2)).2)).1))) 7 (nI (fTu (nI (fTw kd f mt)) (s (24 + fAt f t ch)) s))) 3 (((upd (upd ((fCp (nI (((65536 * kd) + (256 * mt)) + f)) (s (24 + (fAt f t ch))) 24 ((fCp (nI (((65536 * kd) + (256 * mt)) + f)) (s (24 + (fAt f t ch))) 24 ((fCp (nI (((65536 * kd) + (256 * mt)) + f)) (s (24 + (fAt f t ch))) 24 s).2)).2)).2) 8 (fMaj ((fCp (nI (((65536 * kd) + (256 * mt)) + f)) (s (24 + (fAt f t ch))) 24 s).1) ((fCp (nI (((65536 * kd) + (256 * mt)) + f)) (s (24 + (fAt f t ch))) 24 ((fCp (nI (((65536 * kd) + (256 * mt)) + f)) (s (24 + (fAt f t ch))) 24 s).2)).1) ((fCp (nI (((65536 * kd) + (256 * mt)) + f)) (s (24 + (fAt f t ch))) 24 ((fCp (nI (((65536 * kd) + (256 * mt)) + f)) (s (24 + (fAt f t ch))) 24 ((fCp (nI (((65536 * kd) + (256 * mt)) + f)) (s (24 + (fAt f t ch))) 24 s).2)).2)).1))) 7 (nI (fTu (nI (fTw kd f mt)) (s (24 + fAt f t ch)) s))) 3) + (nI 1))) 4) + (nI 1))) (224 + (fAt t f ch)) ((((upd (upd (upd (upd ((fCp (nI (((65536 * kd) + (256 * mt)) + f)) (s (24 + (fAt f t ch))) 24 ((fCp (nI (((65536 * kd) + (256 * mt)) + f)) (s (24 + (fAt f t ch))) 24 ((fCp (nI (((65536 * kd) + (256 * mt)) + f)) (s (24 + (fAt f t ch))) 24 s).2)).2)).2) 8 (fMaj ((fCp (nI (((65536 * kd) + (256 * mt)) + f)) (s (24 + (fAt f t ch))) 24 s).1) ((fCp (nI (((65536 * kd) + (256 * mt)) + f)) (s (24 + (fAt f t ch))) 24 ((fCp (nI (((65536 * kd) + (256 * mt)) + f)) (s (24 + (fAt f t ch))) 24 s).2)).1) ((fCp (nI (((65536 * kd) + (256 * mt)) + f)) (s (24 + (fAt f t ch))) 24 ((fCp (nI (((65536 * kd) + (256 * mt)) + f)) (s (24 + (fAt f t ch))) 24 ((fCp (nI (((65536 * kd) + (256 * mt)) + f)) (s (24 + (fAt f t ch))) 24 s).2)).2)).1))) 7 (nI (fTu (nI (fTw kd f mt)) (s (24 + fAt f t ch)) s))) 3 (((upd (upd ((fCp (nI (((65536 * kd) + (256 * mt)) + f)) (s (24 + (fAt f t ch))) 24 ((fCp (nI (((65536 * kd) + (256 * mt)) + f)) (s (24 + (fAt f t ch))) 24 ((fCp (nI (((65536 * kd) + (256 * mt)) + f)) (s (24 + (fAt f t ch))) 24 s).2)).2)).2) 8 (fMaj ((fCp (nI (((65536 * kd) + (256 * mt)) + f)) (s (24 + (fAt f t ch))) 24 s).1) ((fCp (nI (((65536 * kd) + (256 * mt)) + f)) (s (24 + (fAt f t ch))) 24 ((fCp (nI (((65536 * kd) + (256 * mt)) + f)) (s (24 + (fAt f t ch))) 24 s).2)).1) ((fCp (nI (((65536 * kd) + (256 * mt)) + f)) (s (24 + (fAt f t ch))) 24 ((fCp (nI (((65536 * kd) + (256 * mt)) + f)) (s (24 + (fAt f t ch))) 24 ((fCp (nI (((65536 * kd) + (256 * mt)) + f)) (s (24 + (fAt f t ch))) 24 s).2)).2)).1))) 7 (nI (fTu (nI (fTw kd f mt)) (s (24 + fAt f t ch)) s))) 3) + (nI 1))) 4 (((upd (upd (upd ((fCp (nI (((65536 * kd) + (256 * mt)) + f)) (s (24 + (fAt f t ch))) 24 ((fCp (nI (((65536 * kd) + (256 * mt)) + f)) (s (24 + (fAt f t ch))) 24 ((fCp (nI (((65536 * kd) + (256 * mt)) + f)) (s (24 + (fAt f t ch))) 24 s).2)).2)).2) 8 (fMaj ((fCp (nI (((65536 * kd) + (256 * mt)) + f)) (s (24 + (fAt f t ch))) 24 s).1) ((fCp (nI (((65536 * kd) + (256 * mt)) + f)) (s (24 + (fAt f t ch))) 24 ((fCp (nI (((65536 * kd) + (256 * mt)) + f)) (s (24 + (fAt f t ch))) 24 s).2)).1) ((fCp (nI (((65536 * kd) + (256 * mt)) + f)) (s (24 + (fAt f t ch))) 24 ((fCp (nI (((65536 * kd) + (256 * mt)) + f)) (s (24 + (fAt f t ch))) 24 ((fCp (nI (((65536 * kd) + (256 * mt)) + f)) (s (24 + (fAt f t ch))) 24 s).2)).2)).1))) 7 (nI (fTu (nI (fTw kd f mt)) (s (24 + fAt f t ch)) s))) 3 (((upd (upd ((fCp (nI (((65536 * kd) + (256 * mt)) + f)) (s (24 + (fAt f t ch))) 24 ((fCp (nI (((65536 * kd) + (256 * mt)) + f)) (s (24 + (fAt f t ch))) 24 ((fCp (nI (((65536 * kd) + (256 * mt)) + f)) (s (24 + (fAt f t ch))) 24 s).2)).2)).2) 8 (fMaj ((fCp (nI (((65536 * kd) + (256 * mt)) + f)) (s (24 + (fAt f t ch))) 24 s).1) ((fCp (nI (((65536 * kd) + (256 * mt)) + f)) (s (24 + (fAt f t ch))) 24 ((fCp (nI (((65536 * kd) + (256 * mt)) + f)) (s (24 + (fAt f t ch))) 24 s).2)).1) ((fCp (nI (((65536 * kd) + (256 * mt)) + f)) (s (24 + (fAt f t ch))) 24 ((fCp (nI (((65536 * kd) + (256 * mt)) + f)) (s (24 + (fAt f t ch))) 24 ((fCp (nI (((65536 * kd) + (256 * mt)) + f)) (s (24 + (fAt f t ch))) 24 s).2)).2)).1))) 7 (nI (fTu (nI (fTw kd f mt)) (s (24 + fAt f t ch)) s))) 3) + (nI 1))) 4) + (nI 1))) 7) * (nI 30)) / (nI 24))) 0)) B hz hinX0 0 rfl rfl 0 (by decide) lk55 rfl rfl dX0_transmit_158 ?_
    refine istz (n := 200) (j := (fAt t f ch)) (ws1 := (nW cI a (upd (upd (upd (upd (upd (upd ((fCp (nI (((65536 * kd) + (256 * mt)) + f)) (s (24 + (fAt f t ch))) 24 ((fCp (nI (((65536 * kd) + (256 * mt)) + f)) (s (24 + (fAt f t ch))) 24 ((fCp (nI (((65536 * kd) + (256 * mt)) + f)) (s (24 + (fAt f t ch))) 24 s).2)).2)).2) 8 (fMaj ((fCp (nI (((65536 * kd) + (256 * mt)) + f)) (s (24 + (fAt f t ch))) 24 s).1) ((fCp (nI (((65536 * kd) + (256 * mt)) + f)) (s (24 + (fAt f t ch))) 24 ((fCp (nI (((65536 * kd) + (256 * mt)) + f)) (s (24 + (fAt f t ch))) 24 s).2)).1) ((fCp (nI (((65536 * kd) + (256 * mt)) + f)) (s (24 + (fAt f t ch))) 24 ((fCp (nI (((65536 * kd) + (256 * mt)) + f)) (s (24 + (fAt f t ch))) 24 ((fCp (nI (((65536 * kd) + (256 * mt)) + f)) (s (24 + (fAt f t ch))) 24 s).2)).2)).1))) 7 (nI (fTu (nI (fTw kd f mt)) (s (24 + fAt f t ch)) s))) 3 (((upd (upd ((fCp (nI (((65536 * kd) + (256 * mt)) + f)) (s (24 + (fAt f t ch))) 24 ((fCp (nI (((65536 * kd) + (256 * mt)) + f)) (s (24 + (fAt f t ch))) 24 ((fCp (nI (((65536 * kd) + (256 * mt)) + f)) (s (24 + (fAt f t ch))) 24 s).2)).2)).2) 8 (fMaj ((fCp (nI (((65536 * kd) + (256 * mt)) + f)) (s (24 + (fAt f t ch))) 24 s).1) ((fCp (nI (((65536 * kd) + (256 * mt)) + f)) (s (24 + (fAt f t ch))) 24 ((fCp (nI (((65536 * kd) + (256 * mt)) + f)) (s (24 + (fAt f t ch))) 24 s).2)).1) ((fCp (nI (((65536 * kd) + (256 * mt)) + f)) (s (24 + (fAt f t ch))) 24 ((fCp (nI (((65536 * kd) + (256 * mt)) + f)) (s (24 + (fAt f t ch))) 24 ((fCp (nI (((65536 * kd) + (256 * mt)) + f)) (s (24 + (fAt f t ch))) 24 s).2)).2)).1))) 7 (nI (fTu (nI (fTw kd f mt)) (s (24 + fAt f t ch)) s))) 3) + (nI 1))) 4 (((upd (upd (upd ((fCp (nI (((65536 * kd) + (256 * mt)) + f)) (s (24 + (fAt f t ch))) 24 ((fCp (nI (((65536 * kd) + (256 * mt)) + f)) (s (24 + (fAt f t ch))) 24 ((fCp (nI (((65536 * kd) + (256 * mt)) + f)) (s (24 + (fAt f t ch))) 24 s).2)).2)).2) 8 (fMaj ((fCp (nI (((65536 * kd) + (256 * mt)) + f)) (s (24 + (fAt f t ch))) 24 s).1) ((fCp (nI (((65536 * kd) + (256 * mt)) + f)) (s (24 + (fAt f t ch))) 24 ((fCp (nI (((65536 * kd) + (256 * mt)) + f)) (s (24 + (fAt f t ch))) 24 s).2)).1) ((fCp (nI (((65536 * kd) + (256 * mt)) + f)) (s (24 + (fAt f t ch))) 24 ((fCp (nI (((65536 * kd) + (256 * mt)) + f)) (s (24 + (fAt f t ch))) 24 ((fCp (nI (((65536 * kd) + (256 * mt)) + f)) (s (24 + (fAt f t ch))) 24 s).2)).2)).1))) 7 (nI (fTu (nI (fTw kd f mt)) (s (24 + fAt f t ch)) s))) 3 (((upd (upd ((fCp (nI (((65536 * kd) + (256 * mt)) + f)) (s (24 + (fAt f t ch))) 24 ((fCp (nI (((65536 * kd) + (256 * mt)) + f)) (s (24 + (fAt f t ch))) 24 ((fCp (nI (((65536 * kd) + (256 * mt)) + f)) (s (24 + (fAt f t ch))) 24 s).2)).2)).2) 8 (fMaj ((fCp (nI (((65536 * kd) + (256 * mt)) + f)) (s (24 + (fAt f t ch))) 24 s).1) ((fCp (nI (((65536 * kd) + (256 * mt)) + f)) (s (24 + (fAt f t ch))) 24 ((fCp (nI (((65536 * kd) + (256 * mt)) + f)) (s (24 + (fAt f t ch))) 24 s).2)).1) ((fCp (nI (((65536 * kd) + (256 * mt)) + f)) (s (24 + (fAt f t ch))) 24 ((fCp (nI (((65536 * kd) + (256 * mt)) + f)) (s (24 + (fAt f t ch))) 24 ((fCp (nI (((65536 * kd) + (256 * mt)) + f)) (s (24 + (fAt f t ch))) 24 s).2)).2)).1))) 7 (nI (fTu (nI (fTw kd f mt)) (s (24 + fAt f t ch)) s))) 3) + (nI 1))) 4) + (nI 1))) (224 + (fAt t f ch)) ((((upd (upd (upd (upd ((fCp (nI (((65536 * kd) + (256 * mt)) + f)) (s (24 + (fAt f t ch))) 24 ((fCp (nI (((65536 * kd) + (256 * mt)) + f)) (s (24 + (fAt f t ch))) 24 ((fCp (nI (((65536 * kd) + (256 * mt)) + f)) (s (24 + (fAt f t ch))) 24 s).2)).2)).2) 8 (fMaj ((fCp (nI (((65536 * kd) + (256 * mt)) + f)) (s (24 + (fAt f t ch))) 24 s).1) ((fCp (nI (((65536 * kd) + (256 * mt)) + f)) (s (24 + (fAt f t ch))) 24 ((fCp (nI (((65536 * kd) + (256 * mt)) + f)) (s (24 + (fAt f t ch))) 24 s).2)).1) ((fCp (nI (((65536 * kd) + (256 * mt)) + f)) (s (24 + (fAt f t ch))) 24 ((fCp (nI (((65536 * kd) + (256 * mt)) + f)) (s (24 + (fAt f t ch))) 24 ((fCp (nI (((65536 * kd) + (256 * mt)) + f)) (s (24 + (fAt f t ch))) 24 s).2)).2)).1))) 7 (nI (fTu (nI (fTw kd f mt)) (s (24 + fAt f t ch)) s))) 3 (((upd (upd ((fCp (nI (((65536 * kd) + (256 * mt)) + f)) (s (24 + (fAt f t ch))) 24 ((fCp (nI (((65536 * kd) + (256 * mt)) + f)) (s (24 + (fAt f t ch))) 24 ((fCp (nI (((65536 * kd) + (256 * mt)) + f)) (s (24 + (fAt f t ch))) 24 s).2)).2)).2) 8 (fMaj ((fCp (nI (((65536 * kd) + (256 * mt)) + f)) (s (24 + (fAt f t ch))) 24 s).1) ((fCp (nI (((65536 * kd) + (256 * mt)) + f)) (s (24 + (fAt f t ch))) 24 ((fCp (nI (((65536 * kd) + (256 * mt)) + f)) (s (24 + (fAt f t ch))) 24 s).2)).1) ((fCp (nI (((65536 * kd) + (256 * mt)) + f)) (s (24 + (fAt f t ch))) 24 ((fCp (nI (((65536 * kd) + (256 * mt)) + f)) (s (24 + (fAt f t ch))) 24 ((fCp (nI (((65536 * kd) + (256 * mt)) + f)) (s (24 + (fAt f t ch))) 24 s).2)).2)).1))) 7 (nI (fTu (nI (fTw kd f mt)) (s (24 + fAt f t ch)) s))) 3) + (nI 1))) 4 (((upd (upd (upd ((fCp (nI (((65536 * kd) + (256 * mt)) + f)) (s (24 + (fAt f t ch))) 24 ((fCp (nI (((65536 * kd) + (256 * mt)) + f)) (s (24 + (fAt f t ch))) 24 ((fCp (nI (((65536 * kd) + (256 * mt)) + f)) (s (24 + (fAt f t ch))) 24 s).2)).2)).2) 8 (fMaj ((fCp (nI (((65536 * kd) + (256 * mt)) + f)) (s (24 + (fAt f t ch))) 24 s).1) ((fCp (nI (((65536 * kd) + (256 * mt)) + f)) (s (24 + (fAt f t ch))) 24 ((fCp (nI (((65536 * kd) + (256 * mt)) + f)) (s (24 + (fAt f t ch))) 24 s).2)).1) ((fCp (nI (((65536 * kd) + (256 * mt)) + f)) (s (24 + (fAt f t ch))) 24 ((fCp (nI (((65536 * kd) + (256 * mt)) + f)) (s (24 + (fAt f t ch))) 24 ((fCp (nI (((65536 * kd) + (256 * mt)) + f)) (s (24 + (fAt f t ch))) 24 s).2)).2)).1))) 7 (nI (fTu (nI (fTw kd f mt)) (s (24 + fAt f t ch)) s))) 3 (((upd (upd ((fCp (nI (((65536 * kd) + (256 * mt)) + f)) (s (24 + (fAt f t ch))) 24 ((fCp (nI (((65536 * kd) + (256 * mt)) + f)) (s (24 + (fAt f t ch))) 24 ((fCp (nI (((65536 * kd) + (256 * mt)) + f)) (s (24 + (fAt f t ch))) 24 s).2)).2)).2) 8 (fMaj ((fCp (nI (((65536 * kd) + (256 * mt)) + f)) (s (24 + (fAt f t ch))) 24 s).1) ((fCp (nI (((65536 * kd) + (256 * mt)) + f)) (s (24 + (fAt f t ch))) 24 ((fCp (nI (((65536 * kd) + (256 * mt)) + f)) (s (24 + (fAt f t ch))) 24 s).2)).1) ((fCp (nI (((65536 * kd) + (256 * mt)) + f)) (s (24 + (fAt f t ch))) 24 ((fCp (nI (((65536 * kd) + (256 * mt)) + f)) (s (24 + (fAt f t ch))) 24 ((fCp (nI (((65536 * kd) + (256 * mt)) + f)) (s (24 + (fAt f t ch))) 24 s).2)).2)).1))) 7 (nI (fTu (nI (fTw kd f mt)) (s (24 + fAt f t ch)) s))) 3) + (nI 1))) 4) + (nI 1))) 7) * (nI 30)) / (nI 24))) (424 + (fAt t f ch)) ((upd (upd (upd (upd (upd ((fCp (nI (((65536 * kd) + (256 * mt)) + f)) (s (24 + (fAt f t ch))) 24 ((fCp (nI (((65536 * kd) + (256 * mt)) + f)) (s (24 + (fAt f t ch))) 24 ((fCp (nI (((65536 * kd) + (256 * mt)) + f)) (s (24 + (fAt f t ch))) 24 s).2)).2)).2) 8 (fMaj ((fCp (nI (((65536 * kd) + (256 * mt)) + f)) (s (24 + (fAt f t ch))) 24 s).1) ((fCp (nI (((65536 * kd) + (256 * mt)) + f)) (s (24 + (fAt f t ch))) 24 ((fCp (nI (((65536 * kd) + (256 * mt)) + f)) (s (24 + (fAt f t ch))) 24 s).2)).1) ((fCp (nI (((65536 * kd) + (256 * mt)) + f)) (s (24 + (fAt f t ch))) 24 ((fCp (nI (((65536 * kd) + (256 * mt)) + f)) (s (24 + (fAt f t ch))) 24 ((fCp (nI (((65536 * kd) + (256 * mt)) + f)) (s (24 + (fAt f t ch))) 24 s).2)).2)).1))) 7 (nI (fTu (nI (fTw kd f mt)) (s (24 + fAt f t ch)) s))) 3 (((upd (upd ((fCp (nI (((65536 * kd) + (256 * mt)) + f)) (s (24 + (fAt f t ch))) 24 ((fCp (nI (((65536 * kd) + (256 * mt)) + f)) (s (24 + (fAt f t ch))) 24 ((fCp (nI (((65536 * kd) + (256 * mt)) + f)) (s (24 + (fAt f t ch))) 24 s).2)).2)).2) 8 (fMaj ((fCp (nI (((65536 * kd) + (256 * mt)) + f)) (s (24 + (fAt f t ch))) 24 s).1) ((fCp (nI (((65536 * kd) + (256 * mt)) + f)) (s (24 + (fAt f t ch))) 24 ((fCp (nI (((65536 * kd) + (256 * mt)) + f)) (s (24 + (fAt f t ch))) 24 s).2)).1) ((fCp (nI (((65536 * kd) + (256 * mt)) + f)) (s (24 + (fAt f t ch))) 24 ((fCp (nI (((65536 * kd) + (256 * mt)) + f)) (s (24 + (fAt f t ch))) 24 ((fCp (nI (((65536 * kd) + (256 * mt)) + f)) (s (24 + (fAt f t ch))) 24 s).2)).2)).1))) 7 (nI (fTu (nI (fTw kd f mt)) (s (24 + fAt f t ch)) s))) 3) + (nI 1))) 4 (((upd (upd (upd ((fCp (nI (((65536 * kd) + (256 * mt)) + f)) (s (24 + (fAt f t ch))) 24 ((fCp (nI (((65536 * kd) + (256 * mt)) + f)) (s (24 + (fAt f t ch))) 24 ((fCp (nI (((65536 * kd) + (256 * mt)) + f)) (s (24 + (fAt f t ch))) 24 s).2)).2)).2) 8 (fMaj ((fCp (nI (((65536 * kd) + (256 * mt)) + f)) (s (24 + (fAt f t ch))) 24 s).1) ((fCp (nI (((65536 * kd) + (256 * mt)) + f)) (s (24 + (fAt f t ch))) 24 ((fCp (nI (((65536 * kd) + (256 * mt)) + f)) (s (24 + (fAt f t ch))) 24 s).2)).1) ((fCp (nI (((65536 * kd) + (256 * mt)) + f)) (s (24 + (fAt f t ch))) 24 ((fCp (nI (((65536 * kd) + (256 * mt)) + f)) (s (24 + (fAt f t ch))) 24 ((fCp (nI (((65536 * kd) + (256 * mt)) + f)) (s (24 + (fAt f t ch))) 24 s).2)).2)).1))) 7 (nI (fTu (nI (fTw kd f mt)) (s (24 + fAt f t ch)) s))) 3 (((upd (upd ((fCp (nI (((65536 * kd) + (256 * mt)) + f)) (s (24 + (fAt f t ch))) 24 ((fCp (nI (((65536 * kd) + (256 * mt)) + f)) (s (24 + (fAt f t ch))) 24 ((fCp (nI (((65536 * kd) + (256 * mt)) + f)) (s (24 + (fAt f t ch))) 24 s).2)).2)).2) 8 (fMaj ((fCp (nI (((65536 * kd) + (256 * mt)) + f)) (s (24 + (fAt f t ch))) 24 s).1) ((fCp (nI (((65536 * kd) + (256 * mt)) + f)) (s (24 + (fAt f t ch))) 24 ((fCp (nI (((65536 * kd) + (256 * mt)) + f)) (s (24 + (fAt f t ch))) 24 s).2)).1) ((fCp (nI (((65536 * kd) + (256 * mt)) + f)) (s (24 + (fAt f t ch))) 24 ((fCp (nI (((65536 * kd) + (256 * mt)) + f)) (s (24 + (fAt f t ch))) 24 ((fCp (nI (((65536 * kd) + (256 * mt)) + f)) (s (24 + (fAt f t ch))) 24 s).2)).2)).1))) 7 (nI (fTu (nI (fTw kd f mt)) (s (24 + fAt f t ch)) s))) 3) + (nI 1))) 4) + (nI 1))) (224 + (fAt t f ch)) ((((upd (upd (upd (upd ((fCp (nI (((65536 * kd) + (256 * mt)) + f)) (s (24 + (fAt f t ch))) 24 ((fCp (nI (((65536 * kd) + (256 * mt)) + f)) (s (24 + (fAt f t ch))) 24 ((fCp (nI (((65536 * kd) + (256 * mt)) + f)) (s (24 + (fAt f t ch))) 24 s).2)).2)).2) 8 (fMaj ((fCp (nI (((65536 * kd) + (256 * mt)) + f)) (s (24 + (fAt f t ch))) 24 s).1) ((fCp (nI (((65536 * kd) + (256 * mt)) + f)) (s (24 + (fAt f t ch))) 24 ((fCp (nI (((65536 * kd) + (256 * mt)) + f)) (s (24 + (fAt f t ch))) 24 s).2)).1) ((fCp (nI (((65536 * kd) + (256 * mt)) + f)) (s (24 + (fAt f t ch))) 24 ((fCp (nI (((65536 * kd) + (256 * mt)) + f)) (s (24 + (fAt f t ch))) 24 ((fCp (nI (((65536 * kd) + (256 * mt)) + f)) (s (24 + (fAt f t ch))) 24 s).2)).2)).1))) 7 (nI (fTu (nI (fTw kd f mt)) (s (24 + fAt f t ch)) s))) 3 (((upd (upd ((fCp (nI (((65536 * kd) + (256 * mt)) + f)) (s (24 + (fAt f t ch))) 24 ((fCp (nI (((65536 * kd) + (256 * mt)) + f)) (s (24 + (fAt f t ch))) 24 ((fCp (nI (((65536 * kd) + (256 * mt)) + f)) (s (24 + (fAt f t ch))) 24 s).2)).2)).2) 8 (fMaj ((fCp (nI (((65536 * kd) + (256 * mt)) + f)) (s (24 + (fAt f t ch))) 24 s).1) ((fCp (nI (((65536 * kd) + (256 * mt)) + f)) (s (24 + (fAt f t ch))) 24 ((fCp (nI (((65536 * kd) + (256 * mt)) + f)) (s (24 + (fAt f t ch))) 24 s).2)).1) ((fCp (nI (((65536 * kd) + (256 * mt)) + f)) (s (24 + (fAt f t ch))) 24 ((fCp (nI (((65536 * kd) + (256 * mt)) + f)) (s (24 + (fAt f t ch))) 24 ((fCp (nI (((65536 * kd) + (256 * mt)) + f)) (s (24 + (fAt f t ch))) 24 s).2)).2)).1))) 7 (nI (fTu (nI (fTw kd f mt)) (s (24 + fAt f t ch)) s))) 3) + (nI 1))) 4 (((upd (upd (upd ((fCp (nI (((65536 * kd) + (256 * mt)) + f)) (s (24 + (fAt f t ch))) 24 ((fCp (nI (((65536 * kd) + (256 * mt)) + f)) (s (24 + (fAt f t ch))) 24 ((fCp (nI (((65536 * kd) + (256 * mt)) + f)) (s (24 + (fAt f t ch))) 24 s).2)).2)).2) 8 (fMaj ((fCp (nI (((65536 * kd) + (256 * mt)) + f)) (s (24 + (fAt f t ch))) 24 s).1) ((fCp (nI (((65536 * kd) + (256 * mt)) + f)) (s (24 + (fAt f t ch))) 24 ((fCp (nI (((65536 * kd) + (256 * mt)) + f)) (s (24 + (fAt f t ch))) 24 s).2)).1) ((fCp (nI (((65536 * kd) + (256 * mt)) + f)) (s (24 + (fAt f t ch))) 24 ((fCp (nI (((65536 * kd) + (256 * mt)) + f)) (s (24 + (fAt f t ch))) 24 ((fCp (nI (((65536 * kd) + (256 * mt)) + f)) (s (24 + (fAt f t ch))) 24 s).2)).2)).1))) 7 (nI (fTu (nI (fTw kd f mt)) (s (24 + fAt f t ch)) s))) 3 (((upd (upd ((fCp (nI (((65536 * kd) + (256 * mt)) + f)) (s (24 + (fAt f t ch))) 24 ((fCp (nI (((65536 * kd) + (256 * mt)) + f)) (s (24 + (fAt f t ch))) 24 ((fCp (nI (((65536 * kd) + (256 * mt)) + f)) (s (24 + (fAt f t ch))) 24 s).2)).2)).2) 8 (fMaj ((fCp (nI (((65536 * kd) + (256 * mt)) + f)) (s (24 + (fAt f t ch))) 24 s).1) ((fCp (nI (((65536 * kd) + (256 * mt)) + f)) (s (24 + (fAt f t ch))) 24 ((fCp (nI (((65536 * kd) + (256 * mt)) + f)) (s (24 + (fAt f t ch))) 24 s).2)).1) ((fCp (nI (((65536 * kd) + (256 * mt)) + f)) (s (24 + (fAt f t ch))) 24 ((fCp (nI (((65536 * kd) + (256 * mt)) + f)) (s (24 + (fAt f t ch))) 24 ((fCp (nI (((65536 * kd) + (256 * mt)) + f)) (s (24 + (fAt f t ch))) 24 s).2)).2)).1))) 7 (nI (fTu (nI (fTw kd f mt)) (s (24 + fAt f t ch)) s))) 3) + (nI 1))) 4) + (nI 1))) 7) * (nI 30)) / (nI 24))) 0)) rk)) B hz 6 rfl (by have hat := fAt_lt hf ht hc; have hat2 := fAt_lt ht hf hc; omega) (by decide) (nW_a6 cI a _ _ (by have hat := fAt_lt hf ht hc; have hat2 := fAt_lt ht hf hc; omega) _) dX0_transmit_161 (fun H locs hz => ?_)
    refine lv_iconst (v := (nI 1)) hx hb dX0_transmit_162 (by decide) ?_
    exact rz_z1 B hr hz dX0_transmit_163 (by rw [pk_un (by decide), pk_un (by decide), pk_us] at c109; exact (congrArg Prod.fst (fTr_t (kd := kd) (f := f) (t := t) (mt := mt) (ch := ch) (s := s) c109)).symm) (by rw [pk_un (by decide), pk_un (by decide), pk_us] at c109; first | (rw [fTr_t (kd := kd) (f := f) (t := t) (mt := mt) (ch := ch) (s := s) c109]; exact congrArg (fun z => nW cI a z rk) (xTy (nI (fTw kd f mt)) (s (24 + fAt f t ch)) f t ch s)) | (rw [fTr_f (kd := kd) (f := f) (t := t) (mt := mt) (ch := ch) (s := s) c109]; exact congrArg (fun z => nW cI a z rk) (xTx (nI (fTw kd f mt)) (s (24 + fAt f t ch)) s)))
  · refine lv_iconst (v := (nI 0)) hx hb dX0_transmit_112 (by decide) ?_
    exact rz_z0 B hr hz dX0_transmit_113 (by rw [pk_un (by decide), pk_un (by decide), pk_us] at c109; exact (congrArg Prod.fst (fTr_f (kd := kd) (f := f) (t := t) (mt := mt) (ch := ch) (s := s) c109)).symm) (by rw [pk_un (by decide), pk_un (by decide), pk_us] at c109; first | (rw [fTr_t (kd := kd) (f := f) (t := t) (mt := mt) (ch := ch) (s := s) c109]; exact congrArg (fun z => nW cI a z rk) (xTy (nI (fTw kd f mt)) (s (24 + fAt f t ch)) f t ch s)) | (rw [fTr_f (kd := kd) (f := f) (t := t) (mt := mt) (ch := ch) (s := s) c109]; exact congrArg (fun z => nW cI a z rk) (xTx (nI (fTw kd f mt)) (s (24 + fAt f t ch)) s)))
end
