section
-- ===== PART A: goes FIRST, ahead of the names: the tables' words, and 'selects' of the private methods out of them =====
/-- a private method of a class that the tables say can be made, by its rows of tables_1 -/
def lw_okq (q : MethodName × Nat) : Prop := (q.1.cls ≠ "java/lang/invoke/MethodHandle" ∧ q.1.cls ≠ "java/lang/invoke/VarHandle") ∧ Cond.instantiable q.1.cls q.2 ∈ tables_1 ∧ Cond.privateMethod q.1 ∈ tables_1 ∧ Cond.instanceMethod q.1 ∈ tables_1
theorem lw_p0 : lw_okq (⟨"ClaimBench", "sayFirstClaims", "(II)V"⟩, 10) := ⟨⟨by decide +kernel, by decide +kernel⟩, List.mem_of_getElem? (i := 4) (by decide +kernel), List.mem_of_getElem? (i := 88) (by decide +kernel), List.mem_of_getElem? (i := 89) (by decide +kernel)⟩
theorem lw_p1 : lw_okq (⟨"ClaimBench", "isListener", "(I)Z"⟩, 10) := ⟨⟨by decide +kernel, by decide +kernel⟩, List.mem_of_getElem? (i := 4) (by decide +kernel), List.mem_of_getElem? (i := 92) (by decide +kernel), List.mem_of_getElem? (i := 93) (by decide +kernel)⟩
theorem lw_p2 : lw_okq (⟨"ClaimBench", "isSender", "(II)Z"⟩, 10) := ⟨⟨by decide +kernel, by decide +kernel⟩, List.mem_of_getElem? (i := 4) (by decide +kernel), List.mem_of_getElem? (i := 96) (by decide +kernel), List.mem_of_getElem? (i := 97) (by decide +kernel)⟩
theorem lw_p3 : lw_okq (⟨"ClaimBench", "isLost", "(I)Z"⟩, 10) := ⟨⟨by decide +kernel, by decide +kernel⟩, List.mem_of_getElem? (i := 4) (by decide +kernel), List.mem_of_getElem? (i := 100) (by decide +kernel), List.mem_of_getElem? (i := 101) (by decide +kernel)⟩
theorem lw_p4 : lw_okq (⟨"ClaimBench", "keepsOne", "(I)Z"⟩, 10) := ⟨⟨by decide +kernel, by decide +kernel⟩, List.mem_of_getElem? (i := 4) (by decide +kernel), List.mem_of_getElem? (i := 104) (by decide +kernel), List.mem_of_getElem? (i := 105) (by decide +kernel)⟩
theorem lw_p5 : lw_okq (⟨"ClaimBench", "sayClaim", "(I)V"⟩, 10) := ⟨⟨by decide +kernel, by decide +kernel⟩, List.mem_of_getElem? (i := 4) (by decide +kernel), List.mem_of_getElem? (i := 114) (by decide +kernel), List.mem_of_getElem? (i := 115) (by decide +kernel)⟩
theorem lw_p6 : lw_okq (⟨"ClaimBench", "hearClaim", "(II)V"⟩, 10) := ⟨⟨by decide +kernel, by decide +kernel⟩, List.mem_of_getElem? (i := 4) (by decide +kernel), List.mem_of_getElem? (i := 118) (by decide +kernel), List.mem_of_getElem? (i := 119) (by decide +kernel)⟩
theorem lw_p7 : lw_okq (⟨"ClaimBench", "keepIfDue", "(II)V"⟩, 10) := ⟨⟨by decide +kernel, by decide +kernel⟩, List.mem_of_getElem? (i := 4) (by decide +kernel), List.mem_of_getElem? (i := 122) (by decide +kernel), List.mem_of_getElem? (i := 123) (by decide +kernel)⟩
theorem lw_p8 : lw_okq (⟨"ClaimBenchModel", "isSending", "(II)Z"⟩, 11) := ⟨⟨by decide +kernel, by decide +kernel⟩, List.mem_of_getElem? (i := 150) (by decide +kernel), List.mem_of_getElem? (i := 222) (by decide +kernel), List.mem_of_getElem? (i := 223) (by decide +kernel)⟩
theorem lw_p9 : lw_okq (⟨"ClaimBenchModel", "isLost", "(II)Z"⟩, 11) := ⟨⟨by decide +kernel, by decide +kernel⟩, List.mem_of_getElem? (i := 150) (by decide +kernel), List.mem_of_getElem? (i := 226) (by decide +kernel), List.mem_of_getElem? (i := 227) (by decide +kernel)⟩
theorem lw_p10 : lw_okq (⟨"ClaimBenchModel", "keeps", "(II)I"⟩, 11) := ⟨⟨by decide +kernel, by decide +kernel⟩, List.mem_of_getElem? (i := 150) (by decide +kernel), List.mem_of_getElem? (i := 230) (by decide +kernel), List.mem_of_getElem? (i := 231) (by decide +kernel)⟩
theorem lw_p11 : lw_okq (⟨"ClaimBenchModel", "own", "(II)I"⟩, 11) := ⟨⟨by decide +kernel, by decide +kernel⟩, List.mem_of_getElem? (i := 150) (by decide +kernel), List.mem_of_getElem? (i := 234) (by decide +kernel), List.mem_of_getElem? (i := 235) (by decide +kernel)⟩
theorem lw_p12 : lw_okq (⟨"ClaimBenchModel", "say", "(II)V"⟩, 11) := ⟨⟨by decide +kernel, by decide +kernel⟩, List.mem_of_getElem? (i := 150) (by decide +kernel), List.mem_of_getElem? (i := 242) (by decide +kernel), List.mem_of_getElem? (i := 243) (by decide +kernel)⟩
theorem lw_p13 : lw_okq (⟨"ClaimBenchModel", "hear", "(III)V"⟩, 11) := ⟨⟨by decide +kernel, by decide +kernel⟩, List.mem_of_getElem? (i := 150) (by decide +kernel), List.mem_of_getElem? (i := 246) (by decide +kernel), List.mem_of_getElem? (i := 247) (by decide +kernel)⟩
def lw_privs_1 : List (MethodName × Nat) := [(⟨"ClaimBench", "sayFirstClaims", "(II)V"⟩, 10), (⟨"ClaimBench", "isListener", "(I)Z"⟩, 10), (⟨"ClaimBench", "isSender", "(II)Z"⟩, 10), (⟨"ClaimBench", "isLost", "(I)Z"⟩, 10), (⟨"ClaimBench", "keepsOne", "(I)Z"⟩, 10), (⟨"ClaimBench", "sayClaim", "(I)V"⟩, 10), (⟨"ClaimBench", "hearClaim", "(II)V"⟩, 10), (⟨"ClaimBench", "keepIfDue", "(II)V"⟩, 10), (⟨"ClaimBenchModel", "isSending", "(II)Z"⟩, 11), (⟨"ClaimBenchModel", "isLost", "(II)Z"⟩, 11), (⟨"ClaimBenchModel", "keeps", "(II)I"⟩, 11), (⟨"ClaimBenchModel", "own", "(II)I"⟩, 11), (⟨"ClaimBenchModel", "say", "(II)V"⟩, 11), (⟨"ClaimBenchModel", "hear", "(III)V"⟩, 11)]
theorem lw_r1 : ∀ q ∈ lw_privs_1, lw_okq q := List.forall_mem_cons.mpr ⟨lw_p0, List.forall_mem_cons.mpr ⟨lw_p1, List.forall_mem_cons.mpr ⟨lw_p2, List.forall_mem_cons.mpr ⟨lw_p3, List.forall_mem_cons.mpr ⟨lw_p4, List.forall_mem_cons.mpr ⟨lw_p5, List.forall_mem_cons.mpr ⟨lw_p6, List.forall_mem_cons.mpr ⟨lw_p7, List.forall_mem_cons.mpr ⟨lw_p8, List.forall_mem_cons.mpr ⟨lw_p9, List.forall_mem_cons.mpr ⟨lw_p10, List.forall_mem_cons.mpr ⟨lw_p11, List.forall_mem_cons.mpr ⟨lw_p12, List.forall_mem_cons.mpr ⟨lw_p13, fun _ h => absurd h List.not_mem_nil⟩⟩⟩⟩⟩⟩⟩⟩⟩⟩⟩⟩⟩⟩
def lw_privs : List (MethodName × Nat) := lw_privs_1
def lw_tbl : List Cond := k2_sels lw_privs ++ tables_1
theorem lw_privs_ok : ∀ q ∈ lw_privs, lw_okq q := lw_r1
end
section
/-! ===== BEGIN words of one list among another's, by their places ===== -/
theorem goodIn_r {big : List Cond} (ws : List Cond) (ps : List Nat) (hp : ws = ps.filterMap (fun i => big[i]?)) (h : ws.all goodWord = true) : GoodIn big ws := by
  intro w hw
  have h1 := List.all_eq_true.mp h w hw
  rw [hp] at hw
  obtain ⟨i, -, hi⟩ := List.mem_filterMap.mp hw
  have hm : w ∈ big := by first | exact List.mem_of_getElem? hi | exact List.getElem?_mem hi
  exact ⟨hm, good_of_word h1⟩
theorem goodIn_app {big a b : List Cond} (ha : GoodIn big a) (hb : GoodIn big b) : GoodIn big (a ++ b) := fun w h => (List.mem_append.mp h).elim (ha w) (hb w)
theorem goodIn_ca {big a b : List Cond} {c : Cond} (ha : GoodIn big (c :: a)) (hb : GoodIn big b) : GoodIn big (c :: (a ++ b)) := fun w h => (List.mem_cons.mp h).elim (fun e => ha w (List.mem_cons.mpr (Or.inl e))) (fun h => (List.mem_append.mp h).elim (fun h => ha w (List.mem_cons.mpr (Or.inr h))) (hb w))
theorem goodIn_sub {big ws : List Cond} (hm : ∀ w ∈ ws, w ∈ big) (h : ws.all goodWord = true) : GoodIn big ws := fun w hw => ⟨hm w hw, good_of_word (List.all_eq_true.mp h w hw)⟩
/-! ===== END ===== -/

/-! ===== BEGIN printed: names, fields, word lists, decode rows ===== -/
def RX0 : String := "ClaimBench"
def TX0 : u_T := fun k => match k with
  | 0 => ("ClaimBench", "time", "I", false)
  | 1 => ("ClaimBench", "thereBits", "I", false)
  | 2 => ("ClaimBench", "deafBits", "I", false)
  | 3 => ("ClaimBench", "saidInAll", "I", false)
  | 4 => ("ClaimBench", "forwardBits", "[I", true)
  | 5 => ("ClaimBench", "ownClaims", "[I", true)
  | 6 => ("ClaimBench", "keptClaims", "[I", true)
  | 7 => ("ClaimBench", "keptUntil", "[I", true)
  | 8 => ("ClaimBench", "row", "[I", true)
  | _ => ("ClaimBench", "rowLength", "I", false)
def tyX0 : Nat → FieldType := fun k => match k with
  | 0 => .int
  | 1 => .int
  | 2 => .int
  | 3 => .int
  | 4 => .array .int
  | 5 => .array .int
  | 6 => .array .int
  | 7 => .array .int
  | 8 => .array .int
  | _ => .int
abbrev wsX00 : List Cond := u_ws RX0 TX0 10
theorem nmX0 : ∀ a, a < 10 → ∀ b, b < 10 → a ≠ b → (TX0 a).2.1 ≠ (TX0 b).2.1 := by decide +kernel
theorem tyX0_ok : ∀ k, k < 10 → parseFieldDescriptor (TX0 k).2.2.1 = some (tyX0 k) := by decide +kernel
abbrev cX0_init : ByteArray := prog_1_method_1_code
def yX0_init : MethodName := ⟨RX0, "<init>", "()V"⟩
abbrev cX0_tick : ByteArray := prog_1_method_2_code
def yX0_tick : MethodName := ⟨RX0, "tick", "(I)I"⟩
abbrev cX0_forward : ByteArray := prog_1_method_3_code
def yX0_forward : MethodName := ⟨RX0, "forward", "(IIZ)Z"⟩
abbrev cX0_place : ByteArray := prog_1_method_4_code
def yX0_place : MethodName := ⟨RX0, "place", "(IIZI)Z"⟩
abbrev cX0_there : ByteArray := prog_1_method_5_code
def yX0_there : MethodName := ⟨RX0, "there", "(IZ)Z"⟩
abbrev cX0_deaf : ByteArray := prog_1_method_6_code
def yX0_deaf : MethodName := ⟨RX0, "deaf", "(IZ)Z"⟩
abbrev cX0_data : ByteArray := prog_1_method_7_code
def yX0_data : MethodName := ⟨RX0, "data", "(II)I"⟩
abbrev cX0_said : ByteArray := prog_1_method_8_code
def yX0_said : MethodName := ⟨RX0, "said", "(I)I"⟩
abbrev cX0_claim : ByteArray := prog_1_method_9_code
def yX0_claim : MethodName := ⟨RX0, "claim", "(II)I"⟩
abbrev cX0_kept : ByteArray := prog_1_method_10_code
def yX0_kept : MethodName := ⟨RX0, "kept", "(II)I"⟩
abbrev cX0_lost : ByteArray := prog_1_method_11_code
def yX0_lost : MethodName := ⟨RX0, "lost", "(II)Z"⟩
abbrev cX0_sends : ByteArray := prog_1_method_12_code
def yX0_sends : MethodName := ⟨RX0, "sends", "(I)I"⟩
abbrev cX0_look : ByteArray := prog_1_method_13_code
def yX0_look : MethodName := ⟨RX0, "look", "(I)I"⟩
abbrev cX0_sayFirstClaims : ByteArray := prog_1_method_14_code
def yX0_sayFirstClaims : MethodName := ⟨RX0, "sayFirstClaims", "(II)V"⟩
abbrev cX0_hearClaim : ByteArray := prog_1_method_15_code
def yX0_hearClaim : MethodName := ⟨RX0, "hearClaim", "(II)V"⟩
abbrev cX0_sayClaim : ByteArray := prog_1_method_16_code
def yX0_sayClaim : MethodName := ⟨RX0, "sayClaim", "(I)V"⟩
abbrev cX0_keepIfDue : ByteArray := prog_1_method_17_code
def yX0_keepIfDue : MethodName := ⟨RX0, "keepIfDue", "(II)V"⟩
abbrev cX0_keepsOne : ByteArray := prog_1_method_18_code
def yX0_keepsOne : MethodName := ⟨RX0, "keepsOne", "(I)Z"⟩
abbrev cX0_isLost : ByteArray := prog_1_method_19_code
def yX0_isLost : MethodName := ⟨RX0, "isLost", "(I)Z"⟩
abbrev cX0_isSender : ByteArray := prog_1_method_20_code
def yX0_isSender : MethodName := ⟨RX0, "isSender", "(II)Z"⟩
abbrev cX0_isListener : ByteArray := prog_1_method_21_code
def yX0_isListener : MethodName := ⟨RX0, "isListener", "(I)Z"⟩
abbrev cX0_isRouter : ByteArray := prog_1_method_22_code
def yX0_isRouter : MethodName := ⟨RX0, "isRouter", "(I)Z"⟩
abbrev cX0_isSource : ByteArray := prog_1_method_23_code
def yX0_isSource : MethodName := ⟨RX0, "isSource", "(I)Z"⟩
abbrev cX0_cellOf : ByteArray := prog_1_method_24_code
def yX0_cellOf : MethodName := ⟨RX0, "cellOf", "(II)I"⟩
abbrev cX0_claimOf : ByteArray := prog_1_method_25_code
def yX0_claimOf : MethodName := ⟨RX0, "claimOf", "(IZI)I"⟩
abbrev cX0_routerOf : ByteArray := prog_1_method_26_code
def yX0_routerOf : MethodName := ⟨RX0, "routerOf", "(I)I"⟩
abbrev cX0_isBetter : ByteArray := prog_1_method_27_code
def yX0_isBetter : MethodName := ⟨RX0, "isBetter", "(II)Z"⟩
abbrev cX0_hasBit : ByteArray := prog_1_method_28_code
def yX0_hasBit : MethodName := ⟨RX0, "hasBit", "(II)Z"⟩
abbrev cX0_withBit : ByteArray := prog_1_method_29_code
def yX0_withBit : MethodName := ⟨RX0, "withBit", "(IIZ)I"⟩
def RX1 : String := "ClaimBenchModel"
def TX1 : u_T := fun k => match k with
  | 0 => ("ClaimBenchModel", "time", "I", false)
  | 1 => ("ClaimBenchModel", "all", "I", false)
  | 2 => ("ClaimBenchModel", "isGone", "[Z", true)
  | 3 => ("ClaimBenchModel", "isDeaf", "[Z", true)
  | 4 => ("ClaimBenchModel", "forwards", "[Z", true)
  | 5 => ("ClaimBenchModel", "isStraight", "[Z", true)
  | 6 => ("ClaimBenchModel", "distance", "[I", true)
  | 7 => ("ClaimBenchModel", "keptClaim", "[I", true)
  | 8 => ("ClaimBenchModel", "keptTill", "[I", true)
  | 9 => ("ClaimBenchModel", "row", "[I", true)
  | _ => ("ClaimBenchModel", "many", "I", false)
def tyX1 : Nat → FieldType := fun k => match k with
  | 0 => .int
  | 1 => .int
  | 2 => .array .boolean
  | 3 => .array .boolean
  | 4 => .array .boolean
  | 5 => .array .boolean
  | 6 => .array .int
  | 7 => .array .int
  | 8 => .array .int
  | 9 => .array .int
  | _ => .int
abbrev wsX10 : List Cond := u_ws RX1 TX1 11
theorem nmX1 : ∀ a, a < 11 → ∀ b, b < 11 → a ≠ b → (TX1 a).2.1 ≠ (TX1 b).2.1 := by decide +kernel
theorem tyX1_ok : ∀ k, k < 11 → parseFieldDescriptor (TX1 k).2.2.1 = some (tyX1 k) := by decide +kernel
abbrev cX1_init : ByteArray := prog_3_method_1_code
def yX1_init : MethodName := ⟨RX1, "<init>", "()V"⟩
abbrev cX1_isRouter : ByteArray := prog_3_method_3_code
def yX1_isRouter : MethodName := ⟨RX1, "isRouter", "(I)Z"⟩
abbrev cX1_isPair : ByteArray := prog_3_method_4_code
def yX1_isPair : MethodName := ⟨RX1, "isPair", "(II)Z"⟩
abbrev cX1_tick : ByteArray := prog_3_method_5_code
def yX1_tick : MethodName := ⟨RX1, "tick", "(I)I"⟩
abbrev cX1_forward : ByteArray := prog_3_method_6_code
def yX1_forward : MethodName := ⟨RX1, "forward", "(IIZ)Z"⟩
abbrev cX1_place : ByteArray := prog_3_method_7_code
def yX1_place : MethodName := ⟨RX1, "place", "(IIZI)Z"⟩
abbrev cX1_there : ByteArray := prog_3_method_8_code
def yX1_there : MethodName := ⟨RX1, "there", "(IZ)Z"⟩
abbrev cX1_deaf : ByteArray := prog_3_method_9_code
def yX1_deaf : MethodName := ⟨RX1, "deaf", "(IZ)Z"⟩
abbrev cX1_own : ByteArray := prog_3_method_10_code
def yX1_own : MethodName := ⟨RX1, "own", "(II)I"⟩
abbrev cX1_isBetter : ByteArray := prog_3_method_11_code
def yX1_isBetter : MethodName := ⟨RX1, "isBetter", "(II)Z"⟩
abbrev cX1_keeps : ByteArray := prog_3_method_12_code
def yX1_keeps : MethodName := ⟨RX1, "keeps", "(II)I"⟩
abbrev cX1_isLost : ByteArray := prog_3_method_13_code
def yX1_isLost : MethodName := ⟨RX1, "isLost", "(II)Z"⟩
abbrev cX1_isSending : ByteArray := prog_3_method_14_code
def yX1_isSending : MethodName := ⟨RX1, "isSending", "(II)Z"⟩
abbrev cX1_say : ByteArray := prog_3_method_15_code
def yX1_say : MethodName := ⟨RX1, "say", "(II)V"⟩
abbrev cX1_hear : ByteArray := prog_3_method_16_code
def yX1_hear : MethodName := ⟨RX1, "hear", "(III)V"⟩
abbrev cX1_data : ByteArray := prog_3_method_17_code
def yX1_data : MethodName := ⟨RX1, "data", "(II)I"⟩
abbrev cX1_said : ByteArray := prog_3_method_18_code
def yX1_said : MethodName := ⟨RX1, "said", "(I)I"⟩
abbrev cX1_claim : ByteArray := prog_3_method_19_code
def yX1_claim : MethodName := ⟨RX1, "claim", "(II)I"⟩
abbrev cX1_kept : ByteArray := prog_3_method_20_code
def yX1_kept : MethodName := ⟨RX1, "kept", "(II)I"⟩
abbrev cX1_lost : ByteArray := prog_3_method_21_code
def yX1_lost : MethodName := ⟨RX1, "lost", "(II)Z"⟩
abbrev cX1_sends : ByteArray := prog_3_method_22_code
def yX1_sends : MethodName := ⟨RX1, "sends", "(I)I"⟩
abbrev cX1_look : ByteArray := prog_3_method_23_code
def yX1_look : MethodName := ⟨RX1, "look", "(I)I"⟩
def RL : String := "ClaimBenchLaw"
abbrev cL_law : ByteArray := code
def yL_law : MethodName := ⟨RL, "law", "([I)Z"⟩
def wsX0_cellOf : List Cond := .code yX0_cellOf cX0_cellOf 2 (some .int) :: ([])
def wsX0_claimOf : List Cond := .code yX0_claimOf cX0_claimOf 3 (some .int) :: ([.constant RX0 98 (1000000)])
def wsX0_init : List Cond := .code yX0_init cX0_init 3 none :: ([.methodLink RX0 1 objectInit, .instanceMethod objectInit, .code objectInit ⟨#[0xb1]⟩ 1 none, .fieldLink RX0 7 "ClaimBench" "time" "I", .fieldLink RX0 13 "ClaimBench" "thereBits" "I", .fieldLink RX0 16 "ClaimBench" "deafBits" "I", .fieldLink RX0 19 "ClaimBench" "saidInAll" "I", .arrayClass .int, .fieldLink RX0 22 "ClaimBench" "forwardBits" "[I", .fieldLink RX0 26 "ClaimBench" "ownClaims" "[I", .fieldLink RX0 29 "ClaimBench" "keptClaims" "[I", .fieldLink RX0 32 "ClaimBench" "keptUntil" "[I", .fieldLink RX0 35 "ClaimBench" "row" "[I", .fieldLink RX0 38 "ClaimBench" "rowLength" "I", .methodLink RX0 41 yX0_cellOf, .static yX0_cellOf, .initialized RX0, .code yX0_cellOf cX0_cellOf 2 (some .int), .methodLink RX0 45 yX0_claimOf, .static yX0_claimOf, .code yX0_claimOf cX0_claimOf 3 (some .int), .constant RX0 98 (1000000)] ++ wsX00)
def wsX0_tick : List Cond := .code yX0_tick cX0_tick 2 (some .int) :: ([.fieldLink RX0 7 "ClaimBench" "time" "I", .constant RX0 49 (100000)] ++ wsX00)
def wsX0_isRouter : List Cond := .code yX0_isRouter cX0_isRouter 1 (some .boolean) :: ([])
def wsX0_isSource : List Cond := .code yX0_isSource cX0_isSource 1 (some .boolean) :: ([])
def wsX0_withBit : List Cond := .code yX0_withBit cX0_withBit 3 (some .int) :: ([])
def wsX0_forward : List Cond := .code yX0_forward cX0_forward 4 (some .boolean) :: ([.fieldLink RX0 22 "ClaimBench" "forwardBits" "[I", .methodLink RX0 50 yX0_isRouter, .static yX0_isRouter, .initialized RX0, .code yX0_isRouter cX0_isRouter 1 (some .boolean), .methodLink RX0 54 yX0_isSource, .static yX0_isSource, .code yX0_isSource cX0_isSource 1 (some .boolean), .methodLink RX0 57 yX0_withBit, .static yX0_withBit, .code yX0_withBit cX0_withBit 3 (some .int)] ++ wsX00)
def wsX0_place : List Cond := .code yX0_place cX0_place 5 (some .boolean) :: ([.fieldLink RX0 26 "ClaimBench" "ownClaims" "[I", .methodLink RX0 50 yX0_isRouter, .static yX0_isRouter, .initialized RX0, .code yX0_isRouter cX0_isRouter 1 (some .boolean), .methodLink RX0 54 yX0_isSource, .static yX0_isSource, .code yX0_isSource cX0_isSource 1 (some .boolean), .methodLink RX0 41 yX0_cellOf, .static yX0_cellOf, .code yX0_cellOf cX0_cellOf 2 (some .int), .methodLink RX0 45 yX0_claimOf, .static yX0_claimOf, .code yX0_claimOf cX0_claimOf 3 (some .int), .constant RX0 98 (1000000)] ++ wsX00)
def wsX0_hasBit : List Cond := .code yX0_hasBit cX0_hasBit 2 (some .boolean) :: ([])
def wsX0_there : List Cond := .code yX0_there cX0_there 4 (some .boolean) :: ([.fieldLink RX0 13 "ClaimBench" "thereBits" "I", .methodLink RX0 50 yX0_isRouter, .static yX0_isRouter, .initialized RX0, .code yX0_isRouter cX0_isRouter 1 (some .boolean), .methodLink RX0 61 yX0_hasBit, .static yX0_hasBit, .code yX0_hasBit cX0_hasBit 2 (some .boolean), .methodLink RX0 57 yX0_withBit, .static yX0_withBit, .code yX0_withBit cX0_withBit 3 (some .int)] ++ wsX00)
def wsX0_deaf : List Cond := .code yX0_deaf cX0_deaf 4 (some .boolean) :: ([.fieldLink RX0 16 "ClaimBench" "deafBits" "I", .methodLink RX0 50 yX0_isRouter, .static yX0_isRouter, .initialized RX0, .code yX0_isRouter cX0_isRouter 1 (some .boolean), .methodLink RX0 61 yX0_hasBit, .static yX0_hasBit, .code yX0_hasBit cX0_hasBit 2 (some .boolean), .methodLink RX0 57 yX0_withBit, .static yX0_withBit, .code yX0_withBit cX0_withBit 3 (some .int)] ++ wsX00)
def wsX0_isListener : List Cond := .code yX0_isListener cX0_isListener 2 (some .boolean) :: ([.fieldLink RX0 13 "ClaimBench" "thereBits" "I", .fieldLink RX0 16 "ClaimBench" "deafBits" "I", .methodLink RX0 61 yX0_hasBit, .static yX0_hasBit, .initialized RX0, .code yX0_hasBit cX0_hasBit 2 (some .boolean)] ++ wsX00)
def wsX0_routerOf : List Cond := .code yX0_routerOf cX0_routerOf 1 (some .int) :: ([])
def wsX0_keepsOne : List Cond := .code yX0_keepsOne cX0_keepsOne 2 (some .boolean) :: ([.fieldLink RX0 7 "ClaimBench" "time" "I", .fieldLink RX0 32 "ClaimBench" "keptUntil" "[I", .fieldLink RX0 13 "ClaimBench" "thereBits" "I", .fieldLink RX0 29 "ClaimBench" "keptClaims" "[I", .methodLink RX0 94 yX0_routerOf, .static yX0_routerOf, .initialized RX0, .code yX0_routerOf cX0_routerOf 1 (some .int), .methodLink RX0 61 yX0_hasBit, .static yX0_hasBit, .code yX0_hasBit cX0_hasBit 2 (some .boolean)] ++ wsX00)
def wsX0_isBetter : List Cond := .code yX0_isBetter cX0_isBetter 4 (some .boolean) :: ([.methodLink RX0 94 yX0_routerOf, .static yX0_routerOf, .initialized RX0, .code yX0_routerOf cX0_routerOf 1 (some .int)])
def wsX0_isLost : List Cond := .code yX0_isLost cX0_isLost 2 (some .boolean) :: ([.fieldLink RX0 29 "ClaimBench" "keptClaims" "[I", .fieldLink RX0 26 "ClaimBench" "ownClaims" "[I", .methodLink RX0 72 yX0_keepsOne, .instanceMethod yX0_keepsOne, .selects RX0 yX0_keepsOne yX0_keepsOne, .initialized RX0, .code yX0_keepsOne cX0_keepsOne 2 (some .boolean), .fieldLink RX0 7 "ClaimBench" "time" "I", .fieldLink RX0 32 "ClaimBench" "keptUntil" "[I", .fieldLink RX0 13 "ClaimBench" "thereBits" "I", .methodLink RX0 94 yX0_routerOf, .static yX0_routerOf, .code yX0_routerOf cX0_routerOf 1 (some .int), .methodLink RX0 61 yX0_hasBit, .static yX0_hasBit, .code yX0_hasBit cX0_hasBit 2 (some .boolean), .methodLink RX0 91 yX0_isBetter, .static yX0_isBetter, .code yX0_isBetter cX0_isBetter 4 (some .boolean)] ++ wsX00)
def wsX0_isSender_r1 : List Cond := [Cond.fieldLink RX0 13 "ClaimBench" "thereBits" "I", Cond.fieldLink RX0 22 "ClaimBench" "forwardBits" "[I", Cond.methodLink RX0 61 yX0_hasBit, Cond.static yX0_hasBit, Cond.initialized RX0, Cond.code yX0_hasBit cX0_hasBit 2 (some .boolean), Cond.methodLink RX0 41 yX0_cellOf, Cond.static yX0_cellOf, Cond.code yX0_cellOf cX0_cellOf 2 (some .int), Cond.methodLink RX0 75 yX0_isLost, Cond.instanceMethod yX0_isLost, Cond.selects RX0 yX0_isLost yX0_isLost, Cond.code yX0_isLost cX0_isLost 2 (some .boolean), Cond.fieldLink RX0 29 "ClaimBench" "keptClaims" "[I", Cond.fieldLink RX0 26 "ClaimBench" "ownClaims" "[I", Cond.methodLink RX0 72 yX0_keepsOne, Cond.instanceMethod yX0_keepsOne, Cond.selects RX0 yX0_keepsOne yX0_keepsOne, Cond.code yX0_keepsOne cX0_keepsOne 2 (some .boolean), Cond.fieldLink RX0 7 "ClaimBench" "time" "I", Cond.fieldLink RX0 32 "ClaimBench" "keptUntil" "[I", Cond.methodLink RX0 94 yX0_routerOf, Cond.static yX0_routerOf, Cond.code yX0_routerOf cX0_routerOf 1 (some .int)]
def wsX0_isSender_r2 : List Cond := [Cond.methodLink RX0 91 yX0_isBetter, Cond.static yX0_isBetter, Cond.code yX0_isBetter cX0_isBetter 4 (some .boolean)]
def wsX0_isSender : List Cond := .code yX0_isSender cX0_isSender 3 (some .boolean) :: ((wsX0_isSender_r1 ++ wsX0_isSender_r2) ++ wsX00)
def wsX0_sayClaim : List Cond := .code yX0_sayClaim cX0_sayClaim 2 none :: ([.fieldLink RX0 38 "ClaimBench" "rowLength" "I", .fieldLink RX0 35 "ClaimBench" "row" "[I"] ++ wsX00)
def wsX0_sayFirstClaims_r1 : List Cond := [Cond.methodLink RX0 81 yX0_isListener, Cond.instanceMethod yX0_isListener, Cond.selects RX0 yX0_isListener yX0_isListener, Cond.initialized RX0, Cond.code yX0_isListener cX0_isListener 2 (some .boolean), Cond.fieldLink RX0 13 "ClaimBench" "thereBits" "I", Cond.fieldLink RX0 16 "ClaimBench" "deafBits" "I", Cond.methodLink RX0 61 yX0_hasBit, Cond.static yX0_hasBit, Cond.code yX0_hasBit cX0_hasBit 2 (some .boolean), Cond.methodLink RX0 78 yX0_isSender, Cond.instanceMethod yX0_isSender, Cond.selects RX0 yX0_isSender yX0_isSender, Cond.code yX0_isSender cX0_isSender 3 (some .boolean), Cond.fieldLink RX0 22 "ClaimBench" "forwardBits" "[I", Cond.methodLink RX0 41 yX0_cellOf, Cond.static yX0_cellOf, Cond.code yX0_cellOf cX0_cellOf 2 (some .int), Cond.methodLink RX0 75 yX0_isLost, Cond.instanceMethod yX0_isLost, Cond.selects RX0 yX0_isLost yX0_isLost, Cond.code yX0_isLost cX0_isLost 2 (some .boolean), Cond.fieldLink RX0 29 "ClaimBench" "keptClaims" "[I", Cond.fieldLink RX0 26 "ClaimBench" "ownClaims" "[I"]
def wsX0_sayFirstClaims_r2 : List Cond := [Cond.methodLink RX0 72 yX0_keepsOne, Cond.instanceMethod yX0_keepsOne, Cond.selects RX0 yX0_keepsOne yX0_keepsOne, Cond.code yX0_keepsOne cX0_keepsOne 2 (some .boolean), Cond.fieldLink RX0 7 "ClaimBench" "time" "I", Cond.fieldLink RX0 32 "ClaimBench" "keptUntil" "[I", Cond.methodLink RX0 94 yX0_routerOf, Cond.static yX0_routerOf, Cond.code yX0_routerOf cX0_routerOf 1 (some .int), Cond.methodLink RX0 91 yX0_isBetter, Cond.static yX0_isBetter, Cond.code yX0_isBetter cX0_isBetter 4 (some .boolean), Cond.methodLink RX0 84 yX0_sayClaim, Cond.instanceMethod yX0_sayClaim, Cond.selects RX0 yX0_sayClaim yX0_sayClaim, Cond.code yX0_sayClaim cX0_sayClaim 2 none, Cond.fieldLink RX0 38 "ClaimBench" "rowLength" "I", Cond.fieldLink RX0 35 "ClaimBench" "row" "[I"]
def wsX0_sayFirstClaims : List Cond := .code yX0_sayFirstClaims cX0_sayFirstClaims 4 none :: ((wsX0_sayFirstClaims_r1 ++ wsX0_sayFirstClaims_r2) ++ wsX00)
def wsX0_keepIfDue : List Cond := .code yX0_keepIfDue cX0_keepIfDue 4 none :: ([.fieldLink RX0 29 "ClaimBench" "keptClaims" "[I", .fieldLink RX0 32 "ClaimBench" "keptUntil" "[I", .fieldLink RX0 7 "ClaimBench" "time" "I", .methodLink RX0 72 yX0_keepsOne, .instanceMethod yX0_keepsOne, .selects RX0 yX0_keepsOne yX0_keepsOne, .initialized RX0, .code yX0_keepsOne cX0_keepsOne 2 (some .boolean), .fieldLink RX0 13 "ClaimBench" "thereBits" "I", .methodLink RX0 94 yX0_routerOf, .static yX0_routerOf, .code yX0_routerOf cX0_routerOf 1 (some .int), .methodLink RX0 61 yX0_hasBit, .static yX0_hasBit, .code yX0_hasBit cX0_hasBit 2 (some .boolean), .methodLink RX0 91 yX0_isBetter, .static yX0_isBetter, .code yX0_isBetter cX0_isBetter 4 (some .boolean)] ++ wsX00)
def wsX0_hearClaim_r1 : List Cond := [Cond.fieldLink RX0 26 "ClaimBench" "ownClaims" "[I", Cond.methodLink RX0 41 yX0_cellOf, Cond.static yX0_cellOf, Cond.initialized RX0, Cond.code yX0_cellOf cX0_cellOf 2 (some .int), Cond.methodLink RX0 81 yX0_isListener, Cond.instanceMethod yX0_isListener, Cond.selects RX0 yX0_isListener yX0_isListener, Cond.code yX0_isListener cX0_isListener 2 (some .boolean), Cond.fieldLink RX0 13 "ClaimBench" "thereBits" "I", Cond.fieldLink RX0 16 "ClaimBench" "deafBits" "I", Cond.methodLink RX0 61 yX0_hasBit, Cond.static yX0_hasBit, Cond.code yX0_hasBit cX0_hasBit 2 (some .boolean), Cond.methodLink RX0 88 yX0_keepIfDue, Cond.instanceMethod yX0_keepIfDue, Cond.selects RX0 yX0_keepIfDue yX0_keepIfDue, Cond.code yX0_keepIfDue cX0_keepIfDue 4 none, Cond.fieldLink RX0 29 "ClaimBench" "keptClaims" "[I", Cond.fieldLink RX0 32 "ClaimBench" "keptUntil" "[I", Cond.fieldLink RX0 7 "ClaimBench" "time" "I", Cond.methodLink RX0 72 yX0_keepsOne, Cond.instanceMethod yX0_keepsOne, Cond.selects RX0 yX0_keepsOne yX0_keepsOne]
def wsX0_hearClaim_r2 : List Cond := [Cond.code yX0_keepsOne cX0_keepsOne 2 (some .boolean), Cond.methodLink RX0 94 yX0_routerOf, Cond.static yX0_routerOf, Cond.code yX0_routerOf cX0_routerOf 1 (some .int), Cond.methodLink RX0 91 yX0_isBetter, Cond.static yX0_isBetter, Cond.code yX0_isBetter cX0_isBetter 4 (some .boolean), Cond.methodLink RX0 78 yX0_isSender, Cond.instanceMethod yX0_isSender, Cond.selects RX0 yX0_isSender yX0_isSender, Cond.code yX0_isSender cX0_isSender 3 (some .boolean), Cond.fieldLink RX0 22 "ClaimBench" "forwardBits" "[I", Cond.methodLink RX0 75 yX0_isLost, Cond.instanceMethod yX0_isLost, Cond.selects RX0 yX0_isLost yX0_isLost, Cond.code yX0_isLost cX0_isLost 2 (some .boolean), Cond.methodLink RX0 84 yX0_sayClaim, Cond.instanceMethod yX0_sayClaim, Cond.selects RX0 yX0_sayClaim yX0_sayClaim, Cond.code yX0_sayClaim cX0_sayClaim 2 none, Cond.fieldLink RX0 38 "ClaimBench" "rowLength" "I", Cond.fieldLink RX0 35 "ClaimBench" "row" "[I"]
def wsX0_hearClaim : List Cond := .code yX0_hearClaim cX0_hearClaim 5 none :: ((wsX0_hearClaim_r1 ++ wsX0_hearClaim_r2) ++ wsX00)
def wsX0_data_r1 : List Cond := [Cond.fieldLink RX0 13 "ClaimBench" "thereBits" "I", Cond.fieldLink RX0 38 "ClaimBench" "rowLength" "I", Cond.fieldLink RX0 35 "ClaimBench" "row" "[I", Cond.fieldLink RX0 19 "ClaimBench" "saidInAll" "I", Cond.methodLink RX0 50 yX0_isRouter, Cond.static yX0_isRouter, Cond.initialized RX0, Cond.code yX0_isRouter cX0_isRouter 1 (some .boolean), Cond.methodLink RX0 54 yX0_isSource, Cond.static yX0_isSource, Cond.code yX0_isSource cX0_isSource 1 (some .boolean), Cond.methodLink RX0 61 yX0_hasBit, Cond.static yX0_hasBit, Cond.code yX0_hasBit cX0_hasBit 2 (some .boolean), Cond.methodLink RX0 65 yX0_sayFirstClaims, Cond.instanceMethod yX0_sayFirstClaims, Cond.selects RX0 yX0_sayFirstClaims yX0_sayFirstClaims, Cond.code yX0_sayFirstClaims cX0_sayFirstClaims 4 none, Cond.methodLink RX0 81 yX0_isListener, Cond.instanceMethod yX0_isListener, Cond.selects RX0 yX0_isListener yX0_isListener, Cond.code yX0_isListener cX0_isListener 2 (some .boolean), Cond.fieldLink RX0 16 "ClaimBench" "deafBits" "I", Cond.methodLink RX0 78 yX0_isSender]
def wsX0_data_r2 : List Cond := [Cond.instanceMethod yX0_isSender, Cond.selects RX0 yX0_isSender yX0_isSender, Cond.code yX0_isSender cX0_isSender 3 (some .boolean), Cond.fieldLink RX0 22 "ClaimBench" "forwardBits" "[I", Cond.methodLink RX0 41 yX0_cellOf, Cond.static yX0_cellOf, Cond.code yX0_cellOf cX0_cellOf 2 (some .int), Cond.methodLink RX0 75 yX0_isLost, Cond.instanceMethod yX0_isLost, Cond.selects RX0 yX0_isLost yX0_isLost, Cond.code yX0_isLost cX0_isLost 2 (some .boolean), Cond.fieldLink RX0 29 "ClaimBench" "keptClaims" "[I", Cond.fieldLink RX0 26 "ClaimBench" "ownClaims" "[I", Cond.methodLink RX0 72 yX0_keepsOne, Cond.instanceMethod yX0_keepsOne, Cond.selects RX0 yX0_keepsOne yX0_keepsOne, Cond.code yX0_keepsOne cX0_keepsOne 2 (some .boolean), Cond.fieldLink RX0 7 "ClaimBench" "time" "I", Cond.fieldLink RX0 32 "ClaimBench" "keptUntil" "[I", Cond.methodLink RX0 94 yX0_routerOf, Cond.static yX0_routerOf, Cond.code yX0_routerOf cX0_routerOf 1 (some .int), Cond.methodLink RX0 91 yX0_isBetter, Cond.static yX0_isBetter]
def wsX0_data_r3 : List Cond := [Cond.code yX0_isBetter cX0_isBetter 4 (some .boolean), Cond.methodLink RX0 84 yX0_sayClaim, Cond.instanceMethod yX0_sayClaim, Cond.selects RX0 yX0_sayClaim yX0_sayClaim, Cond.code yX0_sayClaim cX0_sayClaim 2 none, Cond.methodLink RX0 69 yX0_hearClaim, Cond.instanceMethod yX0_hearClaim, Cond.selects RX0 yX0_hearClaim yX0_hearClaim, Cond.code yX0_hearClaim cX0_hearClaim 5 none, Cond.methodLink RX0 88 yX0_keepIfDue, Cond.instanceMethod yX0_keepIfDue, Cond.selects RX0 yX0_keepIfDue yX0_keepIfDue, Cond.code yX0_keepIfDue cX0_keepIfDue 4 none]
def wsX0_data : List Cond := .code yX0_data cX0_data 4 (some .int) :: ((wsX0_data_r1 ++ (wsX0_data_r2 ++ wsX0_data_r3)) ++ wsX00)
def wsX0_said : List Cond := .code yX0_said cX0_said 2 (some .int) :: ([.fieldLink RX0 38 "ClaimBench" "rowLength" "I", .fieldLink RX0 35 "ClaimBench" "row" "[I"] ++ wsX00)
def wsX0_claim : List Cond := .code yX0_claim cX0_claim 3 (some .int) :: ([.fieldLink RX0 26 "ClaimBench" "ownClaims" "[I", .methodLink RX0 50 yX0_isRouter, .static yX0_isRouter, .initialized RX0, .code yX0_isRouter cX0_isRouter 1 (some .boolean), .methodLink RX0 54 yX0_isSource, .static yX0_isSource, .code yX0_isSource cX0_isSource 1 (some .boolean), .methodLink RX0 41 yX0_cellOf, .static yX0_cellOf, .code yX0_cellOf cX0_cellOf 2 (some .int)] ++ wsX00)
def wsX0_kept : List Cond := .code yX0_kept cX0_kept 3 (some .int) :: ([.fieldLink RX0 29 "ClaimBench" "keptClaims" "[I", .methodLink RX0 50 yX0_isRouter, .static yX0_isRouter, .initialized RX0, .code yX0_isRouter cX0_isRouter 1 (some .boolean), .methodLink RX0 54 yX0_isSource, .static yX0_isSource, .code yX0_isSource cX0_isSource 1 (some .boolean), .methodLink RX0 41 yX0_cellOf, .static yX0_cellOf, .code yX0_cellOf cX0_cellOf 2 (some .int), .methodLink RX0 72 yX0_keepsOne, .instanceMethod yX0_keepsOne, .selects RX0 yX0_keepsOne yX0_keepsOne, .code yX0_keepsOne cX0_keepsOne 2 (some .boolean), .fieldLink RX0 7 "ClaimBench" "time" "I", .fieldLink RX0 32 "ClaimBench" "keptUntil" "[I", .fieldLink RX0 13 "ClaimBench" "thereBits" "I", .methodLink RX0 94 yX0_routerOf, .static yX0_routerOf, .code yX0_routerOf cX0_routerOf 1 (some .int), .methodLink RX0 61 yX0_hasBit, .static yX0_hasBit, .code yX0_hasBit cX0_hasBit 2 (some .boolean)] ++ wsX00)
def wsX0_lost_r1 : List Cond := [Cond.methodLink RX0 50 yX0_isRouter, Cond.static yX0_isRouter, Cond.initialized RX0, Cond.code yX0_isRouter cX0_isRouter 1 (some .boolean), Cond.methodLink RX0 54 yX0_isSource, Cond.static yX0_isSource, Cond.code yX0_isSource cX0_isSource 1 (some .boolean), Cond.methodLink RX0 41 yX0_cellOf, Cond.static yX0_cellOf, Cond.code yX0_cellOf cX0_cellOf 2 (some .int), Cond.methodLink RX0 75 yX0_isLost, Cond.instanceMethod yX0_isLost, Cond.selects RX0 yX0_isLost yX0_isLost, Cond.code yX0_isLost cX0_isLost 2 (some .boolean), Cond.fieldLink RX0 29 "ClaimBench" "keptClaims" "[I", Cond.fieldLink RX0 26 "ClaimBench" "ownClaims" "[I", Cond.methodLink RX0 72 yX0_keepsOne, Cond.instanceMethod yX0_keepsOne, Cond.selects RX0 yX0_keepsOne yX0_keepsOne, Cond.code yX0_keepsOne cX0_keepsOne 2 (some .boolean), Cond.fieldLink RX0 7 "ClaimBench" "time" "I", Cond.fieldLink RX0 32 "ClaimBench" "keptUntil" "[I", Cond.fieldLink RX0 13 "ClaimBench" "thereBits" "I", Cond.methodLink RX0 94 yX0_routerOf]
def wsX0_lost_r2 : List Cond := [Cond.static yX0_routerOf, Cond.code yX0_routerOf cX0_routerOf 1 (some .int), Cond.methodLink RX0 61 yX0_hasBit, Cond.static yX0_hasBit, Cond.code yX0_hasBit cX0_hasBit 2 (some .boolean), Cond.methodLink RX0 91 yX0_isBetter, Cond.static yX0_isBetter, Cond.code yX0_isBetter cX0_isBetter 4 (some .boolean)]
def wsX0_lost : List Cond := .code yX0_lost cX0_lost 3 (some .boolean) :: ((wsX0_lost_r1 ++ wsX0_lost_r2) ++ wsX00)
def wsX0_sends_r1 : List Cond := [Cond.methodLink RX0 54 yX0_isSource, Cond.static yX0_isSource, Cond.initialized RX0, Cond.code yX0_isSource cX0_isSource 1 (some .boolean), Cond.methodLink RX0 78 yX0_isSender, Cond.instanceMethod yX0_isSender, Cond.selects RX0 yX0_isSender yX0_isSender, Cond.code yX0_isSender cX0_isSender 3 (some .boolean), Cond.fieldLink RX0 13 "ClaimBench" "thereBits" "I", Cond.fieldLink RX0 22 "ClaimBench" "forwardBits" "[I", Cond.methodLink RX0 61 yX0_hasBit, Cond.static yX0_hasBit, Cond.code yX0_hasBit cX0_hasBit 2 (some .boolean), Cond.methodLink RX0 41 yX0_cellOf, Cond.static yX0_cellOf, Cond.code yX0_cellOf cX0_cellOf 2 (some .int), Cond.methodLink RX0 75 yX0_isLost, Cond.instanceMethod yX0_isLost, Cond.selects RX0 yX0_isLost yX0_isLost, Cond.code yX0_isLost cX0_isLost 2 (some .boolean), Cond.fieldLink RX0 29 "ClaimBench" "keptClaims" "[I", Cond.fieldLink RX0 26 "ClaimBench" "ownClaims" "[I", Cond.methodLink RX0 72 yX0_keepsOne, Cond.instanceMethod yX0_keepsOne]
def wsX0_sends_r2 : List Cond := [Cond.selects RX0 yX0_keepsOne yX0_keepsOne, Cond.code yX0_keepsOne cX0_keepsOne 2 (some .boolean), Cond.fieldLink RX0 7 "ClaimBench" "time" "I", Cond.fieldLink RX0 32 "ClaimBench" "keptUntil" "[I", Cond.methodLink RX0 94 yX0_routerOf, Cond.static yX0_routerOf, Cond.code yX0_routerOf cX0_routerOf 1 (some .int), Cond.methodLink RX0 91 yX0_isBetter, Cond.static yX0_isBetter, Cond.code yX0_isBetter cX0_isBetter 4 (some .boolean), Cond.methodLink RX0 57 yX0_withBit, Cond.static yX0_withBit, Cond.code yX0_withBit cX0_withBit 3 (some .int)]
def wsX0_sends : List Cond := .code yX0_sends cX0_sends 4 (some .int) :: ((wsX0_sends_r1 ++ wsX0_sends_r2) ++ wsX00)
def wsX0_look : List Cond := .code yX0_look cX0_look 2 (some .int) :: ([.fieldLink RX0 7 "ClaimBench" "time" "I", .fieldLink RX0 13 "ClaimBench" "thereBits" "I", .fieldLink RX0 16 "ClaimBench" "deafBits" "I", .fieldLink RX0 19 "ClaimBench" "saidInAll" "I"] ++ wsX00)
def wsX1_init : List Cond := .code yX1_init cX1_init 2 none :: ([.methodLink RX1 1 objectInit, .instanceMethod objectInit, .code objectInit ⟨#[0xb1]⟩ 1 none, .arrayClass .boolean, .fieldLink RX1 7 "ClaimBenchModel" "isGone" "[Z", .fieldLink RX1 13 "ClaimBenchModel" "isDeaf" "[Z", .fieldLink RX1 16 "ClaimBenchModel" "forwards" "[Z", .fieldLink RX1 19 "ClaimBenchModel" "isStraight" "[Z", .arrayClass .int, .fieldLink RX1 22 "ClaimBenchModel" "distance" "[I", .fieldLink RX1 26 "ClaimBenchModel" "keptClaim" "[I", .fieldLink RX1 29 "ClaimBenchModel" "keptTill" "[I", .fieldLink RX1 32 "ClaimBenchModel" "row" "[I"] ++ wsX10)
def wsX1_isRouter : List Cond := .code yX1_isRouter cX1_isRouter 1 (some .boolean) :: ([])
def wsX1_isPair : List Cond := .code yX1_isPair cX1_isPair 2 (some .boolean) :: ([.methodLink RX1 35 yX1_isRouter, .static yX1_isRouter, .initialized RX1, .code yX1_isRouter cX1_isRouter 1 (some .boolean)])
def wsX1_tick : List Cond := .code yX1_tick cX1_tick 2 (some .int) :: ([.fieldLink RX1 39 "ClaimBenchModel" "time" "I", .constant RX1 43 (100000)] ++ wsX10)
def wsX1_forward : List Cond := .code yX1_forward cX1_forward 4 (some .boolean) :: ([.fieldLink RX1 16 "ClaimBenchModel" "forwards" "[Z", .methodLink RX1 44 yX1_isPair, .static yX1_isPair, .initialized RX1, .code yX1_isPair cX1_isPair 2 (some .boolean), .methodLink RX1 35 yX1_isRouter, .static yX1_isRouter, .code yX1_isRouter cX1_isRouter 1 (some .boolean)] ++ wsX10)
def wsX1_place : List Cond := .code yX1_place cX1_place 5 (some .boolean) :: ([.fieldLink RX1 19 "ClaimBenchModel" "isStraight" "[Z", .fieldLink RX1 22 "ClaimBenchModel" "distance" "[I", .methodLink RX1 44 yX1_isPair, .static yX1_isPair, .initialized RX1, .code yX1_isPair cX1_isPair 2 (some .boolean), .methodLink RX1 35 yX1_isRouter, .static yX1_isRouter, .code yX1_isRouter cX1_isRouter 1 (some .boolean)] ++ wsX10)
def wsX1_there : List Cond := .code yX1_there cX1_there 4 (some .boolean) :: ([.fieldLink RX1 7 "ClaimBenchModel" "isGone" "[Z", .methodLink RX1 35 yX1_isRouter, .static yX1_isRouter, .initialized RX1, .code yX1_isRouter cX1_isRouter 1 (some .boolean)] ++ wsX10)
def wsX1_deaf : List Cond := .code yX1_deaf cX1_deaf 4 (some .boolean) :: ([.fieldLink RX1 13 "ClaimBenchModel" "isDeaf" "[Z", .methodLink RX1 35 yX1_isRouter, .static yX1_isRouter, .initialized RX1, .code yX1_isRouter cX1_isRouter 1 (some .boolean)] ++ wsX10)
def wsX1_own : List Cond := .code yX1_own cX1_own 3 (some .int) :: ([.fieldLink RX1 19 "ClaimBenchModel" "isStraight" "[Z", .constant RX1 48 (1000000), .fieldLink RX1 22 "ClaimBenchModel" "distance" "[I"] ++ wsX10)
def wsX1_isBetter : List Cond := .code yX1_isBetter cX1_isBetter 2 (some .boolean) :: ([])
def wsX1_keeps : List Cond := .code yX1_keeps cX1_keeps 4 (some .int) :: ([.fieldLink RX1 26 "ClaimBenchModel" "keptClaim" "[I", .fieldLink RX1 39 "ClaimBenchModel" "time" "I", .fieldLink RX1 29 "ClaimBenchModel" "keptTill" "[I", .fieldLink RX1 7 "ClaimBenchModel" "isGone" "[Z"] ++ wsX10)
def wsX1_isLost : List Cond := .code yX1_isLost cX1_isLost 4 (some .boolean) :: ([.methodLink RX1 49 yX1_keeps, .instanceMethod yX1_keeps, .selects RX1 yX1_keeps yX1_keeps, .initialized RX1, .code yX1_keeps cX1_keeps 4 (some .int), .fieldLink RX1 26 "ClaimBenchModel" "keptClaim" "[I", .fieldLink RX1 39 "ClaimBenchModel" "time" "I", .fieldLink RX1 29 "ClaimBenchModel" "keptTill" "[I", .fieldLink RX1 7 "ClaimBenchModel" "isGone" "[Z", .methodLink RX1 53 yX1_own, .instanceMethod yX1_own, .selects RX1 yX1_own yX1_own, .code yX1_own cX1_own 3 (some .int), .fieldLink RX1 19 "ClaimBenchModel" "isStraight" "[Z", .constant RX1 48 (1000000), .fieldLink RX1 22 "ClaimBenchModel" "distance" "[I", .methodLink RX1 56 yX1_isBetter, .static yX1_isBetter, .code yX1_isBetter cX1_isBetter 2 (some .boolean)] ++ wsX10)
def wsX1_isSending : List Cond := .code yX1_isSending cX1_isSending 3 (some .boolean) :: ([.fieldLink RX1 7 "ClaimBenchModel" "isGone" "[Z", .fieldLink RX1 16 "ClaimBenchModel" "forwards" "[Z", .methodLink RX1 59 yX1_isLost, .instanceMethod yX1_isLost, .selects RX1 yX1_isLost yX1_isLost, .initialized RX1, .code yX1_isLost cX1_isLost 4 (some .boolean), .methodLink RX1 49 yX1_keeps, .instanceMethod yX1_keeps, .selects RX1 yX1_keeps yX1_keeps, .code yX1_keeps cX1_keeps 4 (some .int), .fieldLink RX1 26 "ClaimBenchModel" "keptClaim" "[I", .fieldLink RX1 39 "ClaimBenchModel" "time" "I", .fieldLink RX1 29 "ClaimBenchModel" "keptTill" "[I", .methodLink RX1 53 yX1_own, .instanceMethod yX1_own, .selects RX1 yX1_own yX1_own, .code yX1_own cX1_own 3 (some .int), .fieldLink RX1 19 "ClaimBenchModel" "isStraight" "[Z", .constant RX1 48 (1000000), .fieldLink RX1 22 "ClaimBenchModel" "distance" "[I", .methodLink RX1 56 yX1_isBetter, .static yX1_isBetter, .code yX1_isBetter cX1_isBetter 2 (some .boolean)] ++ wsX10)
def wsX1_say : List Cond := .code yX1_say cX1_say 3 none :: ([.fieldLink RX1 62 "ClaimBenchModel" "many" "I", .fieldLink RX1 32 "ClaimBenchModel" "row" "[I", .fieldLink RX1 65 "ClaimBenchModel" "all" "I", .methodLink RX1 53 yX1_own, .instanceMethod yX1_own, .selects RX1 yX1_own yX1_own, .initialized RX1, .code yX1_own cX1_own 3 (some .int), .fieldLink RX1 19 "ClaimBenchModel" "isStraight" "[Z", .constant RX1 48 (1000000), .fieldLink RX1 22 "ClaimBenchModel" "distance" "[I"] ++ wsX10)
def wsX1_hear_r1 : List Cond := [Cond.fieldLink RX1 26 "ClaimBenchModel" "keptClaim" "[I", Cond.fieldLink RX1 29 "ClaimBenchModel" "keptTill" "[I", Cond.fieldLink RX1 39 "ClaimBenchModel" "time" "I", Cond.methodLink RX1 49 yX1_keeps, Cond.instanceMethod yX1_keeps, Cond.selects RX1 yX1_keeps yX1_keeps, Cond.initialized RX1, Cond.code yX1_keeps cX1_keeps 4 (some .int), Cond.fieldLink RX1 7 "ClaimBenchModel" "isGone" "[Z", Cond.methodLink RX1 56 yX1_isBetter, Cond.static yX1_isBetter, Cond.code yX1_isBetter cX1_isBetter 2 (some .boolean), Cond.methodLink RX1 68 yX1_isSending, Cond.instanceMethod yX1_isSending, Cond.selects RX1 yX1_isSending yX1_isSending, Cond.code yX1_isSending cX1_isSending 3 (some .boolean), Cond.fieldLink RX1 16 "ClaimBenchModel" "forwards" "[Z", Cond.methodLink RX1 59 yX1_isLost, Cond.instanceMethod yX1_isLost, Cond.selects RX1 yX1_isLost yX1_isLost, Cond.code yX1_isLost cX1_isLost 4 (some .boolean), Cond.methodLink RX1 53 yX1_own, Cond.instanceMethod yX1_own, Cond.selects RX1 yX1_own yX1_own]
def wsX1_hear_r2 : List Cond := [Cond.code yX1_own cX1_own 3 (some .int), Cond.fieldLink RX1 19 "ClaimBenchModel" "isStraight" "[Z", Cond.constant RX1 48 (1000000), Cond.fieldLink RX1 22 "ClaimBenchModel" "distance" "[I", Cond.methodLink RX1 71 yX1_say, Cond.instanceMethod yX1_say, Cond.selects RX1 yX1_say yX1_say, Cond.code yX1_say cX1_say 3 none, Cond.fieldLink RX1 62 "ClaimBenchModel" "many" "I", Cond.fieldLink RX1 32 "ClaimBenchModel" "row" "[I", Cond.fieldLink RX1 65 "ClaimBenchModel" "all" "I"]
def wsX1_hear : List Cond := .code yX1_hear cX1_hear 5 none :: ((wsX1_hear_r1 ++ wsX1_hear_r2) ++ wsX10)
def wsX1_data_r1 : List Cond := [Cond.fieldLink RX1 7 "ClaimBenchModel" "isGone" "[Z", Cond.fieldLink RX1 62 "ClaimBenchModel" "many" "I", Cond.fieldLink RX1 13 "ClaimBenchModel" "isDeaf" "[Z", Cond.fieldLink RX1 32 "ClaimBenchModel" "row" "[I", Cond.methodLink RX1 44 yX1_isPair, Cond.static yX1_isPair, Cond.initialized RX1, Cond.code yX1_isPair cX1_isPair 2 (some .boolean), Cond.methodLink RX1 35 yX1_isRouter, Cond.static yX1_isRouter, Cond.code yX1_isRouter cX1_isRouter 1 (some .boolean), Cond.methodLink RX1 68 yX1_isSending, Cond.instanceMethod yX1_isSending, Cond.selects RX1 yX1_isSending yX1_isSending, Cond.code yX1_isSending cX1_isSending 3 (some .boolean), Cond.fieldLink RX1 16 "ClaimBenchModel" "forwards" "[Z", Cond.methodLink RX1 59 yX1_isLost, Cond.instanceMethod yX1_isLost, Cond.selects RX1 yX1_isLost yX1_isLost, Cond.code yX1_isLost cX1_isLost 4 (some .boolean), Cond.methodLink RX1 49 yX1_keeps, Cond.instanceMethod yX1_keeps, Cond.selects RX1 yX1_keeps yX1_keeps, Cond.code yX1_keeps cX1_keeps 4 (some .int)]
def wsX1_data_r2 : List Cond := [Cond.fieldLink RX1 26 "ClaimBenchModel" "keptClaim" "[I", Cond.fieldLink RX1 39 "ClaimBenchModel" "time" "I", Cond.fieldLink RX1 29 "ClaimBenchModel" "keptTill" "[I", Cond.methodLink RX1 53 yX1_own, Cond.instanceMethod yX1_own, Cond.selects RX1 yX1_own yX1_own, Cond.code yX1_own cX1_own 3 (some .int), Cond.fieldLink RX1 19 "ClaimBenchModel" "isStraight" "[Z", Cond.constant RX1 48 (1000000), Cond.fieldLink RX1 22 "ClaimBenchModel" "distance" "[I", Cond.methodLink RX1 56 yX1_isBetter, Cond.static yX1_isBetter, Cond.code yX1_isBetter cX1_isBetter 2 (some .boolean), Cond.methodLink RX1 71 yX1_say, Cond.instanceMethod yX1_say, Cond.selects RX1 yX1_say yX1_say, Cond.code yX1_say cX1_say 3 none, Cond.fieldLink RX1 65 "ClaimBenchModel" "all" "I", Cond.methodLink RX1 75 yX1_hear, Cond.instanceMethod yX1_hear, Cond.selects RX1 yX1_hear yX1_hear, Cond.code yX1_hear cX1_hear 5 none]
def wsX1_data : List Cond := .code yX1_data cX1_data 5 (some .int) :: ((wsX1_data_r1 ++ wsX1_data_r2) ++ wsX10)
def wsX1_said : List Cond := .code yX1_said cX1_said 2 (some .int) :: ([.fieldLink RX1 62 "ClaimBenchModel" "many" "I", .fieldLink RX1 32 "ClaimBenchModel" "row" "[I"] ++ wsX10)
def wsX1_claim : List Cond := .code yX1_claim cX1_claim 3 (some .int) :: ([.methodLink RX1 44 yX1_isPair, .static yX1_isPair, .initialized RX1, .code yX1_isPair cX1_isPair 2 (some .boolean), .methodLink RX1 35 yX1_isRouter, .static yX1_isRouter, .code yX1_isRouter cX1_isRouter 1 (some .boolean), .methodLink RX1 53 yX1_own, .instanceMethod yX1_own, .selects RX1 yX1_own yX1_own, .code yX1_own cX1_own 3 (some .int), .fieldLink RX1 19 "ClaimBenchModel" "isStraight" "[Z", .constant RX1 48 (1000000), .fieldLink RX1 22 "ClaimBenchModel" "distance" "[I"] ++ wsX10)
def wsX1_kept : List Cond := .code yX1_kept cX1_kept 3 (some .int) :: ([.methodLink RX1 44 yX1_isPair, .static yX1_isPair, .initialized RX1, .code yX1_isPair cX1_isPair 2 (some .boolean), .methodLink RX1 35 yX1_isRouter, .static yX1_isRouter, .code yX1_isRouter cX1_isRouter 1 (some .boolean), .methodLink RX1 49 yX1_keeps, .instanceMethod yX1_keeps, .selects RX1 yX1_keeps yX1_keeps, .code yX1_keeps cX1_keeps 4 (some .int), .fieldLink RX1 26 "ClaimBenchModel" "keptClaim" "[I", .fieldLink RX1 39 "ClaimBenchModel" "time" "I", .fieldLink RX1 29 "ClaimBenchModel" "keptTill" "[I", .fieldLink RX1 7 "ClaimBenchModel" "isGone" "[Z"] ++ wsX10)
def wsX1_lost_r1 : List Cond := [Cond.methodLink RX1 44 yX1_isPair, Cond.static yX1_isPair, Cond.initialized RX1, Cond.code yX1_isPair cX1_isPair 2 (some .boolean), Cond.methodLink RX1 35 yX1_isRouter, Cond.static yX1_isRouter, Cond.code yX1_isRouter cX1_isRouter 1 (some .boolean), Cond.methodLink RX1 59 yX1_isLost, Cond.instanceMethod yX1_isLost, Cond.selects RX1 yX1_isLost yX1_isLost, Cond.code yX1_isLost cX1_isLost 4 (some .boolean), Cond.methodLink RX1 49 yX1_keeps, Cond.instanceMethod yX1_keeps, Cond.selects RX1 yX1_keeps yX1_keeps, Cond.code yX1_keeps cX1_keeps 4 (some .int), Cond.fieldLink RX1 26 "ClaimBenchModel" "keptClaim" "[I", Cond.fieldLink RX1 39 "ClaimBenchModel" "time" "I", Cond.fieldLink RX1 29 "ClaimBenchModel" "keptTill" "[I", Cond.fieldLink RX1 7 "ClaimBenchModel" "isGone" "[Z", Cond.methodLink RX1 53 yX1_own, Cond.instanceMethod yX1_own, Cond.selects RX1 yX1_own yX1_own, Cond.code yX1_own cX1_own 3 (some .int), Cond.fieldLink RX1 19 "ClaimBenchModel" "isStraight" "[Z"]
def wsX1_lost_r2 : List Cond := [Cond.constant RX1 48 (1000000), Cond.fieldLink RX1 22 "ClaimBenchModel" "distance" "[I", Cond.methodLink RX1 56 yX1_isBetter, Cond.static yX1_isBetter, Cond.code yX1_isBetter cX1_isBetter 2 (some .boolean)]
def wsX1_lost : List Cond := .code yX1_lost cX1_lost 3 (some .boolean) :: ((wsX1_lost_r1 ++ wsX1_lost_r2) ++ wsX10)
def wsX1_sends_r1 : List Cond := [Cond.methodLink RX1 44 yX1_isPair, Cond.static yX1_isPair, Cond.initialized RX1, Cond.code yX1_isPair cX1_isPair 2 (some .boolean), Cond.methodLink RX1 35 yX1_isRouter, Cond.static yX1_isRouter, Cond.code yX1_isRouter cX1_isRouter 1 (some .boolean), Cond.methodLink RX1 68 yX1_isSending, Cond.instanceMethod yX1_isSending, Cond.selects RX1 yX1_isSending yX1_isSending, Cond.code yX1_isSending cX1_isSending 3 (some .boolean), Cond.fieldLink RX1 7 "ClaimBenchModel" "isGone" "[Z", Cond.fieldLink RX1 16 "ClaimBenchModel" "forwards" "[Z", Cond.methodLink RX1 59 yX1_isLost, Cond.instanceMethod yX1_isLost, Cond.selects RX1 yX1_isLost yX1_isLost, Cond.code yX1_isLost cX1_isLost 4 (some .boolean), Cond.methodLink RX1 49 yX1_keeps, Cond.instanceMethod yX1_keeps, Cond.selects RX1 yX1_keeps yX1_keeps, Cond.code yX1_keeps cX1_keeps 4 (some .int), Cond.fieldLink RX1 26 "ClaimBenchModel" "keptClaim" "[I", Cond.fieldLink RX1 39 "ClaimBenchModel" "time" "I", Cond.fieldLink RX1 29 "ClaimBenchModel" "keptTill" "[I"]
def wsX1_sends_r2 : List Cond := [Cond.methodLink RX1 53 yX1_own, Cond.instanceMethod yX1_own, Cond.selects RX1 yX1_own yX1_own, Cond.code yX1_own cX1_own 3 (some .int), Cond.fieldLink RX1 19 "ClaimBenchModel" "isStraight" "[Z", Cond.constant RX1 48 (1000000), Cond.fieldLink RX1 22 "ClaimBenchModel" "distance" "[I", Cond.methodLink RX1 56 yX1_isBetter, Cond.static yX1_isBetter, Cond.code yX1_isBetter cX1_isBetter 2 (some .boolean)]
def wsX1_sends : List Cond := .code yX1_sends cX1_sends 4 (some .int) :: ((wsX1_sends_r1 ++ wsX1_sends_r2) ++ wsX10)
def wsX1_look : List Cond := .code yX1_look cX1_look 5 (some .int) :: ([.fieldLink RX1 39 "ClaimBenchModel" "time" "I", .fieldLink RX1 65 "ClaimBenchModel" "all" "I", .fieldLink RX1 7 "ClaimBenchModel" "isGone" "[Z", .fieldLink RX1 13 "ClaimBenchModel" "isDeaf" "[Z"] ++ wsX10)
def wsL_law_r1 : List Cond := [Cond.classLink RL 7 RX0, Cond.instantiable RX0 10, Cond.initialized RX0, Cond.classLink RL 10 RX1, Cond.instantiable RX1 11, Cond.initialized RX1, Cond.methodLink RL 9 yX0_init, Cond.instanceMethod yX0_init, Cond.code yX0_init cX0_init 3 none, Cond.methodLink RX0 1 objectInit, Cond.instanceMethod objectInit, Cond.code objectInit ⟨#[0xb1]⟩ 1 none, Cond.fieldLink RX0 7 "ClaimBench" "time" "I", Cond.fieldLink RX0 13 "ClaimBench" "thereBits" "I", Cond.fieldLink RX0 16 "ClaimBench" "deafBits" "I", Cond.fieldLink RX0 19 "ClaimBench" "saidInAll" "I", Cond.arrayClass .int, Cond.fieldLink RX0 22 "ClaimBench" "forwardBits" "[I", Cond.fieldLink RX0 26 "ClaimBench" "ownClaims" "[I", Cond.fieldLink RX0 29 "ClaimBench" "keptClaims" "[I", Cond.fieldLink RX0 32 "ClaimBench" "keptUntil" "[I", Cond.fieldLink RX0 35 "ClaimBench" "row" "[I", Cond.fieldLink RX0 38 "ClaimBench" "rowLength" "I", Cond.methodLink RX0 41 yX0_cellOf]
def wsL_law_r2 : List Cond := [Cond.static yX0_cellOf, Cond.code yX0_cellOf cX0_cellOf 2 (some .int), Cond.methodLink RX0 45 yX0_claimOf, Cond.static yX0_claimOf, Cond.code yX0_claimOf cX0_claimOf 3 (some .int), Cond.constant RX0 98 (1000000), Cond.methodLink RL 12 yX1_init, Cond.instanceMethod yX1_init, Cond.code yX1_init cX1_init 2 none, Cond.methodLink RX1 1 objectInit, Cond.arrayClass .boolean, Cond.fieldLink RX1 7 "ClaimBenchModel" "isGone" "[Z", Cond.fieldLink RX1 13 "ClaimBenchModel" "isDeaf" "[Z", Cond.fieldLink RX1 16 "ClaimBenchModel" "forwards" "[Z", Cond.fieldLink RX1 19 "ClaimBenchModel" "isStraight" "[Z", Cond.fieldLink RX1 22 "ClaimBenchModel" "distance" "[I", Cond.fieldLink RX1 26 "ClaimBenchModel" "keptClaim" "[I", Cond.fieldLink RX1 29 "ClaimBenchModel" "keptTill" "[I", Cond.fieldLink RX1 32 "ClaimBenchModel" "row" "[I", Cond.methodLink RL 13 yX0_tick, Cond.instanceMethod yX0_tick, Cond.selects RX0 yX0_tick yX0_tick, Cond.code yX0_tick cX0_tick 2 (some .int), Cond.constant RX0 49 (100000)]
def wsL_law_r3 : List Cond := [Cond.methodLink RL 17 yX1_tick, Cond.instanceMethod yX1_tick, Cond.selects RX1 yX1_tick yX1_tick, Cond.code yX1_tick cX1_tick 2 (some .int), Cond.fieldLink RX1 39 "ClaimBenchModel" "time" "I", Cond.constant RX1 43 (100000), Cond.methodLink RL 18 yX0_forward, Cond.instanceMethod yX0_forward, Cond.selects RX0 yX0_forward yX0_forward, Cond.code yX0_forward cX0_forward 4 (some .boolean), Cond.methodLink RX0 50 yX0_isRouter, Cond.static yX0_isRouter, Cond.code yX0_isRouter cX0_isRouter 1 (some .boolean), Cond.methodLink RX0 54 yX0_isSource, Cond.static yX0_isSource, Cond.code yX0_isSource cX0_isSource 1 (some .boolean), Cond.methodLink RX0 57 yX0_withBit, Cond.static yX0_withBit, Cond.code yX0_withBit cX0_withBit 3 (some .int), Cond.methodLink RL 22 yX1_forward, Cond.instanceMethod yX1_forward, Cond.selects RX1 yX1_forward yX1_forward, Cond.code yX1_forward cX1_forward 4 (some .boolean), Cond.methodLink RX1 44 yX1_isPair]
def wsL_law_r4 : List Cond := [Cond.static yX1_isPair, Cond.code yX1_isPair cX1_isPair 2 (some .boolean), Cond.methodLink RX1 35 yX1_isRouter, Cond.static yX1_isRouter, Cond.code yX1_isRouter cX1_isRouter 1 (some .boolean), Cond.methodLink RL 23 yX0_place, Cond.instanceMethod yX0_place, Cond.selects RX0 yX0_place yX0_place, Cond.code yX0_place cX0_place 5 (some .boolean), Cond.methodLink RL 27 yX1_place, Cond.instanceMethod yX1_place, Cond.selects RX1 yX1_place yX1_place, Cond.code yX1_place cX1_place 5 (some .boolean), Cond.methodLink RL 28 yX0_there, Cond.instanceMethod yX0_there, Cond.selects RX0 yX0_there yX0_there, Cond.code yX0_there cX0_there 4 (some .boolean), Cond.methodLink RX0 61 yX0_hasBit, Cond.static yX0_hasBit, Cond.code yX0_hasBit cX0_hasBit 2 (some .boolean), Cond.methodLink RL 32 yX1_there, Cond.instanceMethod yX1_there, Cond.selects RX1 yX1_there yX1_there, Cond.code yX1_there cX1_there 4 (some .boolean)]
def wsL_law_r5 : List Cond := [Cond.methodLink RL 33 yX0_deaf, Cond.instanceMethod yX0_deaf, Cond.selects RX0 yX0_deaf yX0_deaf, Cond.code yX0_deaf cX0_deaf 4 (some .boolean), Cond.methodLink RL 36 yX1_deaf, Cond.instanceMethod yX1_deaf, Cond.selects RX1 yX1_deaf yX1_deaf, Cond.code yX1_deaf cX1_deaf 4 (some .boolean), Cond.methodLink RL 37 yX0_data, Cond.instanceMethod yX0_data, Cond.selects RX0 yX0_data yX0_data, Cond.code yX0_data cX0_data 4 (some .int), Cond.methodLink RX0 65 yX0_sayFirstClaims, Cond.instanceMethod yX0_sayFirstClaims, Cond.selects RX0 yX0_sayFirstClaims yX0_sayFirstClaims, Cond.code yX0_sayFirstClaims cX0_sayFirstClaims 4 none, Cond.methodLink RX0 81 yX0_isListener, Cond.instanceMethod yX0_isListener, Cond.selects RX0 yX0_isListener yX0_isListener, Cond.code yX0_isListener cX0_isListener 2 (some .boolean), Cond.methodLink RX0 78 yX0_isSender, Cond.instanceMethod yX0_isSender, Cond.selects RX0 yX0_isSender yX0_isSender, Cond.code yX0_isSender cX0_isSender 3 (some .boolean)]
def wsL_law_r6 : List Cond := [Cond.methodLink RX0 75 yX0_isLost, Cond.instanceMethod yX0_isLost, Cond.selects RX0 yX0_isLost yX0_isLost, Cond.code yX0_isLost cX0_isLost 2 (some .boolean), Cond.methodLink RX0 72 yX0_keepsOne, Cond.instanceMethod yX0_keepsOne, Cond.selects RX0 yX0_keepsOne yX0_keepsOne, Cond.code yX0_keepsOne cX0_keepsOne 2 (some .boolean), Cond.methodLink RX0 94 yX0_routerOf, Cond.static yX0_routerOf, Cond.code yX0_routerOf cX0_routerOf 1 (some .int), Cond.methodLink RX0 91 yX0_isBetter, Cond.static yX0_isBetter, Cond.code yX0_isBetter cX0_isBetter 4 (some .boolean), Cond.methodLink RX0 84 yX0_sayClaim, Cond.instanceMethod yX0_sayClaim, Cond.selects RX0 yX0_sayClaim yX0_sayClaim, Cond.code yX0_sayClaim cX0_sayClaim 2 none, Cond.methodLink RX0 69 yX0_hearClaim, Cond.instanceMethod yX0_hearClaim, Cond.selects RX0 yX0_hearClaim yX0_hearClaim, Cond.code yX0_hearClaim cX0_hearClaim 5 none, Cond.methodLink RX0 88 yX0_keepIfDue, Cond.instanceMethod yX0_keepIfDue]
def wsL_law_r7 : List Cond := [Cond.selects RX0 yX0_keepIfDue yX0_keepIfDue, Cond.code yX0_keepIfDue cX0_keepIfDue 4 none, Cond.methodLink RL 41 yX1_data, Cond.instanceMethod yX1_data, Cond.selects RX1 yX1_data yX1_data, Cond.code yX1_data cX1_data 5 (some .int), Cond.fieldLink RX1 62 "ClaimBenchModel" "many" "I", Cond.methodLink RX1 68 yX1_isSending, Cond.instanceMethod yX1_isSending, Cond.selects RX1 yX1_isSending yX1_isSending, Cond.code yX1_isSending cX1_isSending 3 (some .boolean), Cond.methodLink RX1 59 yX1_isLost, Cond.instanceMethod yX1_isLost, Cond.selects RX1 yX1_isLost yX1_isLost, Cond.code yX1_isLost cX1_isLost 4 (some .boolean), Cond.methodLink RX1 49 yX1_keeps, Cond.instanceMethod yX1_keeps, Cond.selects RX1 yX1_keeps yX1_keeps, Cond.code yX1_keeps cX1_keeps 4 (some .int), Cond.methodLink RX1 53 yX1_own, Cond.instanceMethod yX1_own, Cond.selects RX1 yX1_own yX1_own, Cond.code yX1_own cX1_own 3 (some .int), Cond.constant RX1 48 (1000000)]
def wsL_law_r8 : List Cond := [Cond.methodLink RX1 56 yX1_isBetter, Cond.static yX1_isBetter, Cond.code yX1_isBetter cX1_isBetter 2 (some .boolean), Cond.methodLink RX1 71 yX1_say, Cond.instanceMethod yX1_say, Cond.selects RX1 yX1_say yX1_say, Cond.code yX1_say cX1_say 3 none, Cond.fieldLink RX1 65 "ClaimBenchModel" "all" "I", Cond.methodLink RX1 75 yX1_hear, Cond.instanceMethod yX1_hear, Cond.selects RX1 yX1_hear yX1_hear, Cond.code yX1_hear cX1_hear 5 none, Cond.methodLink RL 42 yX0_said, Cond.instanceMethod yX0_said, Cond.selects RX0 yX0_said yX0_said, Cond.code yX0_said cX0_said 2 (some .int), Cond.methodLink RL 45 yX1_said, Cond.instanceMethod yX1_said, Cond.selects RX1 yX1_said yX1_said, Cond.code yX1_said cX1_said 2 (some .int), Cond.methodLink RL 46 yX0_claim, Cond.instanceMethod yX0_claim, Cond.selects RX0 yX0_claim yX0_claim, Cond.code yX0_claim cX0_claim 3 (some .int)]
def wsL_law_r9 : List Cond := [Cond.methodLink RL 49 yX1_claim, Cond.instanceMethod yX1_claim, Cond.selects RX1 yX1_claim yX1_claim, Cond.code yX1_claim cX1_claim 3 (some .int), Cond.methodLink RL 50 yX0_kept, Cond.instanceMethod yX0_kept, Cond.selects RX0 yX0_kept yX0_kept, Cond.code yX0_kept cX0_kept 3 (some .int), Cond.methodLink RL 53 yX1_kept, Cond.instanceMethod yX1_kept, Cond.selects RX1 yX1_kept yX1_kept, Cond.code yX1_kept cX1_kept 3 (some .int), Cond.methodLink RL 54 yX0_lost, Cond.instanceMethod yX0_lost, Cond.selects RX0 yX0_lost yX0_lost, Cond.code yX0_lost cX0_lost 3 (some .boolean), Cond.methodLink RL 58 yX1_lost, Cond.instanceMethod yX1_lost, Cond.selects RX1 yX1_lost yX1_lost, Cond.code yX1_lost cX1_lost 3 (some .boolean), Cond.methodLink RL 59 yX0_sends, Cond.instanceMethod yX0_sends, Cond.selects RX0 yX0_sends yX0_sends, Cond.code yX0_sends cX0_sends 4 (some .int)]
def wsL_law_r10 : List Cond := [Cond.methodLink RL 62 yX1_sends, Cond.instanceMethod yX1_sends, Cond.selects RX1 yX1_sends yX1_sends, Cond.code yX1_sends cX1_sends 4 (some .int), Cond.methodLink RL 63 yX0_look, Cond.instanceMethod yX0_look, Cond.selects RX0 yX0_look yX0_look, Cond.code yX0_look cX0_look 2 (some .int), Cond.methodLink RL 66 yX1_look, Cond.instanceMethod yX1_look, Cond.selects RX1 yX1_look yX1_look, Cond.code yX1_look cX1_look 5 (some .int)]
def wsL_law : List Cond := (wsL_law_r1 ++ (wsL_law_r2 ++ (wsL_law_r3 ++ (wsL_law_r4 ++ (wsL_law_r5 ++ (wsL_law_r6 ++ (wsL_law_r7 ++ (wsL_law_r8 ++ (wsL_law_r9 ++ wsL_law_r10))))))))) ++ wsX00 ++ wsX10 ++ ([] : List Cond)
set_option maxRecDepth 20000 in
theorem wsL_law_in : ∀ w ∈ wsL_law, w ∈ lw_tbl := fun w h => (goodIn_p wsL_law [21, 24, 27, 30, 167, 67, 207, 72, 75, 78, 81, 212, 215, 218, 85, 222, 89, 92, 226, 96, 230, 100, 104, 108, 112, 116, 120, 123, 126, 130, 134, 138, 234, 238, 242, 246, 250, 254, 258, 262, 142, 266, 146, 270, 150, 274, 154, 278, 158, 282, 162, 286] (by decide +kernel) (by decide +kernel) w h).1
theorem inlX0 : ∀ w ∈ wsX00, w ∈ wsL_law := fun _ h => List.mem_append_left _ (List.mem_append_left _ (List.mem_append_right _ h))
theorem inX0 : ∀ w ∈ wsX00, w ∈ lw_tbl := fun w h => wsL_law_in w (inlX0 w h)
theorem inlX1 : ∀ w ∈ wsX10, w ∈ wsL_law := fun _ h => List.mem_append_left _ (List.mem_append_right _ h)
theorem inX1 : ∀ w ∈ wsX10, w ∈ lw_tbl := fun w h => wsL_law_in w (inlX1 w h)
set_option maxRecDepth 20000 in
theorem ggX0_init_X0_cellOf : GoodIn wsX0_init wsX0_cellOf := goodIn_r _ [18] (by decide +kernel) (by decide +kernel)
set_option maxRecDepth 20000 in
theorem gX0_init_X0_cellOf : GoodIn wsX0_init (va_wsS RX0 41 yX0_cellOf wsX0_cellOf) := goodIn_app (goodIn_of _ (by decide +kernel)) ggX0_init_X0_cellOf
set_option maxRecDepth 20000 in
theorem ggX0_init_X0_claimOf : GoodIn wsX0_init wsX0_claimOf := goodIn_r _ [21, 22] (by decide +kernel) (by decide +kernel)
set_option maxRecDepth 20000 in
theorem gX0_init_X0_claimOf : GoodIn wsX0_init (va_wsS RX0 45 yX0_claimOf wsX0_claimOf) := goodIn_app (goodIn_of _ (by decide +kernel)) ggX0_init_X0_claimOf
theorem dX0_init_0 : decode cX0_init 0 = .ok (.aload_n 0, 1) := by decide +kernel
theorem dX0_init_1 : decode cX0_init 1 = .ok (.invokespecial 1, 3) := by decide +kernel
theorem dX0_init_4 : decode cX0_init 4 = .ok (.aload_n 0, 1) := by decide +kernel
theorem dX0_init_5 : decode cX0_init 5 = .ok (.iconst 0, 1) := by decide +kernel
theorem dX0_init_6 : decode cX0_init 6 = .ok (.putfield 7, 3) := by decide +kernel
theorem dX0_init_9 : decode cX0_init 9 = .ok (.aload_n 0, 1) := by decide +kernel
theorem dX0_init_10 : decode cX0_init 10 = .ok (.sipush 1023, 3) := by decide +kernel
theorem dX0_init_13 : decode cX0_init 13 = .ok (.putfield 13, 3) := by decide +kernel
theorem dX0_init_16 : decode cX0_init 16 = .ok (.aload_n 0, 1) := by decide +kernel
theorem dX0_init_17 : decode cX0_init 17 = .ok (.iconst 0, 1) := by decide +kernel
theorem dX0_init_18 : decode cX0_init 18 = .ok (.putfield 16, 3) := by decide +kernel
theorem dX0_init_21 : decode cX0_init 21 = .ok (.aload_n 0, 1) := by decide +kernel
theorem dX0_init_22 : decode cX0_init 22 = .ok (.iconst 0, 1) := by decide +kernel
theorem dX0_init_23 : decode cX0_init 23 = .ok (.putfield 19, 3) := by decide +kernel
theorem dX0_init_26 : decode cX0_init 26 = .ok (.aload_n 0, 1) := by decide +kernel
theorem dX0_init_27 : decode cX0_init 27 = .ok (.bipush 16, 2) := by decide +kernel
theorem dX0_init_29 : decode cX0_init 29 = .ok (.newarray .int, 2) := by decide +kernel
theorem dX0_init_31 : decode cX0_init 31 = .ok (.putfield 22, 3) := by decide +kernel
theorem dX0_init_34 : decode cX0_init 34 = .ok (.aload_n 0, 1) := by decide +kernel
theorem dX0_init_35 : decode cX0_init 35 = .ok (.sipush 160, 3) := by decide +kernel
theorem dX0_init_38 : decode cX0_init 38 = .ok (.newarray .int, 2) := by decide +kernel
theorem dX0_init_40 : decode cX0_init 40 = .ok (.putfield 26, 3) := by decide +kernel
theorem dX0_init_43 : decode cX0_init 43 = .ok (.aload_n 0, 1) := by decide +kernel
theorem dX0_init_44 : decode cX0_init 44 = .ok (.sipush 160, 3) := by decide +kernel
theorem dX0_init_47 : decode cX0_init 47 = .ok (.newarray .int, 2) := by decide +kernel
theorem dX0_init_49 : decode cX0_init 49 = .ok (.putfield 29, 3) := by decide +kernel
theorem dX0_init_52 : decode cX0_init 52 = .ok (.aload_n 0, 1) := by decide +kernel
theorem dX0_init_53 : decode cX0_init 53 = .ok (.sipush 160, 3) := by decide +kernel
theorem dX0_init_56 : decode cX0_init 56 = .ok (.newarray .int, 2) := by decide +kernel
theorem dX0_init_58 : decode cX0_init 58 = .ok (.putfield 32, 3) := by decide +kernel
theorem dX0_init_61 : decode cX0_init 61 = .ok (.aload_n 0, 1) := by decide +kernel
theorem dX0_init_62 : decode cX0_init 62 = .ok (.sipush 1023, 3) := by decide +kernel
theorem dX0_init_65 : decode cX0_init 65 = .ok (.newarray .int, 2) := by decide +kernel
theorem dX0_init_67 : decode cX0_init 67 = .ok (.putfield 35, 3) := by decide +kernel
theorem dX0_init_70 : decode cX0_init 70 = .ok (.aload_n 0, 1) := by decide +kernel
theorem dX0_init_71 : decode cX0_init 71 = .ok (.iconst 0, 1) := by decide +kernel
theorem dX0_init_72 : decode cX0_init 72 = .ok (.putfield 38, 3) := by decide +kernel
theorem dX0_init_75 : decode cX0_init 75 = .ok (.iconst 0, 1) := by decide +kernel
theorem dX0_init_76 : decode cX0_init 76 = .ok (.istore_n 1, 1) := by decide +kernel
theorem dX0_init_77 : decode cX0_init 77 = .ok (.iload_n 1, 1) := by decide +kernel
theorem dX0_init_78 : decode cX0_init 78 = .ok (.bipush 10, 2) := by decide +kernel
theorem dX0_init_80 : decode cX0_init 80 = .ok (.if_icmp .ge 39, 3) := by decide +kernel
theorem dX0_init_83 : decode cX0_init 83 = .ok (.iconst 0, 1) := by decide +kernel
theorem dX0_init_84 : decode cX0_init 84 = .ok (.istore_n 2, 1) := by decide +kernel
theorem dX0_init_85 : decode cX0_init 85 = .ok (.iload_n 2, 1) := by decide +kernel
theorem dX0_init_86 : decode cX0_init 86 = .ok (.bipush 16, 2) := by decide +kernel
theorem dX0_init_88 : decode cX0_init 88 = .ok (.if_icmp .ge 25, 3) := by decide +kernel
theorem dX0_init_91 : decode cX0_init 91 = .ok (.aload_n 0, 1) := by decide +kernel
theorem dX0_init_92 : decode cX0_init 92 = .ok (.getfield 26, 3) := by decide +kernel
theorem dX0_init_95 : decode cX0_init 95 = .ok (.iload_n 1, 1) := by decide +kernel
theorem dX0_init_96 : decode cX0_init 96 = .ok (.iload_n 2, 1) := by decide +kernel
theorem dX0_init_97 : decode cX0_init 97 = .ok (.invokestatic 41, 3) := by decide +kernel
theorem dX0_init_100 : decode cX0_init 100 = .ok (.iload_n 1, 1) := by decide +kernel
theorem dX0_init_101 : decode cX0_init 101 = .ok (.iconst 0, 1) := by decide +kernel
theorem dX0_init_102 : decode cX0_init 102 = .ok (.iconst 0, 1) := by decide +kernel
theorem dX0_init_103 : decode cX0_init 103 = .ok (.invokestatic 45, 3) := by decide +kernel
theorem dX0_init_106 : decode cX0_init 106 = .ok (.iastore, 1) := by decide +kernel
theorem dX0_init_107 : decode cX0_init 107 = .ok (.iinc 2 1, 3) := by decide +kernel
theorem dX0_init_110 : decode cX0_init 110 = .ok (.goto (-25), 3) := by decide +kernel
theorem dX0_init_113 : decode cX0_init 113 = .ok (.iinc 1 1, 3) := by decide +kernel
theorem dX0_init_116 : decode cX0_init 116 = .ok (.goto (-39), 3) := by decide +kernel
theorem dX0_init_119 : decode cX0_init 119 = .ok (.return_, 1) := by decide +kernel
theorem dX0_tick_0 : decode cX0_tick 0 = .ok (.iload_n 1, 1) := by decide +kernel
theorem dX0_tick_1 : decode cX0_tick 1 = .ok (.iconst 1, 1) := by decide +kernel
theorem dX0_tick_2 : decode cX0_tick 2 = .ok (.if_icmp .lt 20, 3) := by decide +kernel
theorem dX0_tick_5 : decode cX0_tick 5 = .ok (.iload_n 1, 1) := by decide +kernel
theorem dX0_tick_6 : decode cX0_tick 6 = .ok (.bipush 100, 2) := by decide +kernel
theorem dX0_tick_8 : decode cX0_tick 8 = .ok (.if_icmp .gt 14, 3) := by decide +kernel
theorem dX0_tick_11 : decode cX0_tick 11 = .ok (.aload_n 0, 1) := by decide +kernel
theorem dX0_tick_12 : decode cX0_tick 12 = .ok (.getfield 7, 3) := by decide +kernel
theorem dX0_tick_15 : decode cX0_tick 15 = .ok (.iload_n 1, 1) := by decide +kernel
theorem dX0_tick_16 : decode cX0_tick 16 = .ok (.iadd, 1) := by decide +kernel
theorem dX0_tick_17 : decode cX0_tick 17 = .ok (.ldc 49, 2) := by decide +kernel
theorem dX0_tick_19 : decode cX0_tick 19 = .ok (.if_icmp .le 5, 3) := by decide +kernel
theorem dX0_tick_22 : decode cX0_tick 22 = .ok (.iconst (-1), 1) := by decide +kernel
theorem dX0_tick_23 : decode cX0_tick 23 = .ok (.ireturn, 1) := by decide +kernel
theorem dX0_tick_24 : decode cX0_tick 24 = .ok (.aload_n 0, 1) := by decide +kernel
theorem dX0_tick_25 : decode cX0_tick 25 = .ok (.dup, 1) := by decide +kernel
theorem dX0_tick_26 : decode cX0_tick 26 = .ok (.getfield 7, 3) := by decide +kernel
theorem dX0_tick_29 : decode cX0_tick 29 = .ok (.iload_n 1, 1) := by decide +kernel
theorem dX0_tick_30 : decode cX0_tick 30 = .ok (.iadd, 1) := by decide +kernel
theorem dX0_tick_31 : decode cX0_tick 31 = .ok (.putfield 7, 3) := by decide +kernel
theorem dX0_tick_34 : decode cX0_tick 34 = .ok (.aload_n 0, 1) := by decide +kernel
theorem dX0_tick_35 : decode cX0_tick 35 = .ok (.getfield 7, 3) := by decide +kernel
theorem dX0_tick_38 : decode cX0_tick 38 = .ok (.ireturn, 1) := by decide +kernel
set_option maxRecDepth 20000 in
theorem ggX0_forward_X0_isRouter : GoodIn wsX0_forward wsX0_isRouter := goodIn_r _ [5] (by decide +kernel) (by decide +kernel)
set_option maxRecDepth 20000 in
theorem gX0_forward_X0_isRouter : GoodIn wsX0_forward (va_wsS RX0 50 yX0_isRouter wsX0_isRouter) := goodIn_app (goodIn_of _ (by decide +kernel)) ggX0_forward_X0_isRouter
set_option maxRecDepth 20000 in
theorem ggX0_forward_X0_isSource : GoodIn wsX0_forward wsX0_isSource := goodIn_r _ [8] (by decide +kernel) (by decide +kernel)
set_option maxRecDepth 20000 in
theorem gX0_forward_X0_isSource : GoodIn wsX0_forward (va_wsS RX0 54 yX0_isSource wsX0_isSource) := goodIn_app (goodIn_of _ (by decide +kernel)) ggX0_forward_X0_isSource
set_option maxRecDepth 20000 in
theorem ggX0_forward_X0_withBit : GoodIn wsX0_forward wsX0_withBit := goodIn_r _ [11] (by decide +kernel) (by decide +kernel)
set_option maxRecDepth 20000 in
theorem gX0_forward_X0_withBit : GoodIn wsX0_forward (va_wsS RX0 57 yX0_withBit wsX0_withBit) := goodIn_app (goodIn_of _ (by decide +kernel)) ggX0_forward_X0_withBit
theorem dX0_forward_0 : decode cX0_forward 0 = .ok (.iload_n 1, 1) := by decide +kernel
theorem dX0_forward_1 : decode cX0_forward 1 = .ok (.invokestatic 50, 3) := by decide +kernel
theorem dX0_forward_4 : decode cX0_forward 4 = .ok (.ifCond .eq 10, 3) := by decide +kernel
theorem dX0_forward_7 : decode cX0_forward 7 = .ok (.iload_n 2, 1) := by decide +kernel
theorem dX0_forward_8 : decode cX0_forward 8 = .ok (.invokestatic 54, 3) := by decide +kernel
theorem dX0_forward_11 : decode cX0_forward 11 = .ok (.ifCond .ne 5, 3) := by decide +kernel
theorem dX0_forward_14 : decode cX0_forward 14 = .ok (.iconst 0, 1) := by decide +kernel
theorem dX0_forward_15 : decode cX0_forward 15 = .ok (.ireturn, 1) := by decide +kernel
theorem dX0_forward_16 : decode cX0_forward 16 = .ok (.aload_n 0, 1) := by decide +kernel
theorem dX0_forward_17 : decode cX0_forward 17 = .ok (.getfield 22, 3) := by decide +kernel
theorem dX0_forward_20 : decode cX0_forward 20 = .ok (.iload_n 2, 1) := by decide +kernel
theorem dX0_forward_21 : decode cX0_forward 21 = .ok (.aload_n 0, 1) := by decide +kernel
theorem dX0_forward_22 : decode cX0_forward 22 = .ok (.getfield 22, 3) := by decide +kernel
theorem dX0_forward_25 : decode cX0_forward 25 = .ok (.iload_n 2, 1) := by decide +kernel
theorem dX0_forward_26 : decode cX0_forward 26 = .ok (.iaload, 1) := by decide +kernel
theorem dX0_forward_27 : decode cX0_forward 27 = .ok (.iload_n 1, 1) := by decide +kernel
theorem dX0_forward_28 : decode cX0_forward 28 = .ok (.iload_n 3, 1) := by decide +kernel
theorem dX0_forward_29 : decode cX0_forward 29 = .ok (.invokestatic 57, 3) := by decide +kernel
theorem dX0_forward_32 : decode cX0_forward 32 = .ok (.iastore, 1) := by decide +kernel
theorem dX0_forward_33 : decode cX0_forward 33 = .ok (.iconst 1, 1) := by decide +kernel
theorem dX0_forward_34 : decode cX0_forward 34 = .ok (.ireturn, 1) := by decide +kernel
set_option maxRecDepth 20000 in
theorem ggX0_place_X0_isRouter : GoodIn wsX0_place wsX0_isRouter := goodIn_r _ [5] (by decide +kernel) (by decide +kernel)
set_option maxRecDepth 20000 in
theorem gX0_place_X0_isRouter : GoodIn wsX0_place (va_wsS RX0 50 yX0_isRouter wsX0_isRouter) := goodIn_app (goodIn_of _ (by decide +kernel)) ggX0_place_X0_isRouter
set_option maxRecDepth 20000 in
theorem ggX0_place_X0_isSource : GoodIn wsX0_place wsX0_isSource := goodIn_r _ [8] (by decide +kernel) (by decide +kernel)
set_option maxRecDepth 20000 in
theorem gX0_place_X0_isSource : GoodIn wsX0_place (va_wsS RX0 54 yX0_isSource wsX0_isSource) := goodIn_app (goodIn_of _ (by decide +kernel)) ggX0_place_X0_isSource
set_option maxRecDepth 20000 in
theorem ggX0_place_X0_cellOf : GoodIn wsX0_place wsX0_cellOf := goodIn_r _ [11] (by decide +kernel) (by decide +kernel)
set_option maxRecDepth 20000 in
theorem gX0_place_X0_cellOf : GoodIn wsX0_place (va_wsS RX0 41 yX0_cellOf wsX0_cellOf) := goodIn_app (goodIn_of _ (by decide +kernel)) ggX0_place_X0_cellOf
set_option maxRecDepth 20000 in
theorem ggX0_place_X0_claimOf : GoodIn wsX0_place wsX0_claimOf := goodIn_r _ [14, 15] (by decide +kernel) (by decide +kernel)
set_option maxRecDepth 20000 in
theorem gX0_place_X0_claimOf : GoodIn wsX0_place (va_wsS RX0 45 yX0_claimOf wsX0_claimOf) := goodIn_app (goodIn_of _ (by decide +kernel)) ggX0_place_X0_claimOf
theorem dX0_place_0 : decode cX0_place 0 = .ok (.iload_n 1, 1) := by decide +kernel
theorem dX0_place_1 : decode cX0_place 1 = .ok (.invokestatic 50, 3) := by decide +kernel
theorem dX0_place_4 : decode cX0_place 4 = .ok (.ifCond .eq 23, 3) := by decide +kernel
theorem dX0_place_7 : decode cX0_place 7 = .ok (.iload_n 2, 1) := by decide +kernel
theorem dX0_place_8 : decode cX0_place 8 = .ok (.invokestatic 54, 3) := by decide +kernel
theorem dX0_place_11 : decode cX0_place 11 = .ok (.ifCond .eq 16, 3) := by decide +kernel
theorem dX0_place_14 : decode cX0_place 14 = .ok (.iload 4, 2) := by decide +kernel
theorem dX0_place_16 : decode cX0_place 16 = .ok (.ifCond .lt 11, 3) := by decide +kernel
theorem dX0_place_19 : decode cX0_place 19 = .ok (.iload 4, 2) := by decide +kernel
theorem dX0_place_21 : decode cX0_place 21 = .ok (.sipush 9999, 3) := by decide +kernel
theorem dX0_place_24 : decode cX0_place 24 = .ok (.if_icmp .le 5, 3) := by decide +kernel
theorem dX0_place_27 : decode cX0_place 27 = .ok (.iconst 0, 1) := by decide +kernel
theorem dX0_place_28 : decode cX0_place 28 = .ok (.ireturn, 1) := by decide +kernel
theorem dX0_place_29 : decode cX0_place 29 = .ok (.aload_n 0, 1) := by decide +kernel
theorem dX0_place_30 : decode cX0_place 30 = .ok (.getfield 26, 3) := by decide +kernel
theorem dX0_place_33 : decode cX0_place 33 = .ok (.iload_n 1, 1) := by decide +kernel
theorem dX0_place_34 : decode cX0_place 34 = .ok (.iload_n 2, 1) := by decide +kernel
theorem dX0_place_35 : decode cX0_place 35 = .ok (.invokestatic 41, 3) := by decide +kernel
theorem dX0_place_38 : decode cX0_place 38 = .ok (.iload_n 1, 1) := by decide +kernel
theorem dX0_place_39 : decode cX0_place 39 = .ok (.iload_n 3, 1) := by decide +kernel
theorem dX0_place_40 : decode cX0_place 40 = .ok (.iload 4, 2) := by decide +kernel
theorem dX0_place_42 : decode cX0_place 42 = .ok (.invokestatic 45, 3) := by decide +kernel
theorem dX0_place_45 : decode cX0_place 45 = .ok (.iastore, 1) := by decide +kernel
theorem dX0_place_46 : decode cX0_place 46 = .ok (.iconst 1, 1) := by decide +kernel
theorem dX0_place_47 : decode cX0_place 47 = .ok (.ireturn, 1) := by decide +kernel
set_option maxRecDepth 20000 in
theorem ggX0_there_X0_isRouter : GoodIn wsX0_there wsX0_isRouter := goodIn_r _ [5] (by decide +kernel) (by decide +kernel)
set_option maxRecDepth 20000 in
theorem gX0_there_X0_isRouter : GoodIn wsX0_there (va_wsS RX0 50 yX0_isRouter wsX0_isRouter) := goodIn_app (goodIn_of _ (by decide +kernel)) ggX0_there_X0_isRouter
set_option maxRecDepth 20000 in
theorem ggX0_there_X0_hasBit : GoodIn wsX0_there wsX0_hasBit := goodIn_r _ [8] (by decide +kernel) (by decide +kernel)
set_option maxRecDepth 20000 in
theorem gX0_there_X0_hasBit : GoodIn wsX0_there (va_wsS RX0 61 yX0_hasBit wsX0_hasBit) := goodIn_app (goodIn_of _ (by decide +kernel)) ggX0_there_X0_hasBit
set_option maxRecDepth 20000 in
theorem ggX0_there_X0_withBit : GoodIn wsX0_there wsX0_withBit := goodIn_r _ [11] (by decide +kernel) (by decide +kernel)
set_option maxRecDepth 20000 in
theorem gX0_there_X0_withBit : GoodIn wsX0_there (va_wsS RX0 57 yX0_withBit wsX0_withBit) := goodIn_app (goodIn_of _ (by decide +kernel)) ggX0_there_X0_withBit
theorem dX0_there_0 : decode cX0_there 0 = .ok (.iload_n 1, 1) := by decide +kernel
theorem dX0_there_1 : decode cX0_there 1 = .ok (.invokestatic 50, 3) := by decide +kernel
theorem dX0_there_4 : decode cX0_there 4 = .ok (.ifCond .ne 5, 3) := by decide +kernel
theorem dX0_there_7 : decode cX0_there 7 = .ok (.iconst 0, 1) := by decide +kernel
theorem dX0_there_8 : decode cX0_there 8 = .ok (.ireturn, 1) := by decide +kernel
theorem dX0_there_9 : decode cX0_there 9 = .ok (.aload_n 0, 1) := by decide +kernel
theorem dX0_there_10 : decode cX0_there 10 = .ok (.getfield 13, 3) := by decide +kernel
theorem dX0_there_13 : decode cX0_there 13 = .ok (.iload_n 1, 1) := by decide +kernel
theorem dX0_there_14 : decode cX0_there 14 = .ok (.invokestatic 61, 3) := by decide +kernel
theorem dX0_there_17 : decode cX0_there 17 = .ok (.istore_n 3, 1) := by decide +kernel
theorem dX0_there_18 : decode cX0_there 18 = .ok (.aload_n 0, 1) := by decide +kernel
theorem dX0_there_19 : decode cX0_there 19 = .ok (.aload_n 0, 1) := by decide +kernel
theorem dX0_there_20 : decode cX0_there 20 = .ok (.getfield 13, 3) := by decide +kernel
theorem dX0_there_23 : decode cX0_there 23 = .ok (.iload_n 1, 1) := by decide +kernel
theorem dX0_there_24 : decode cX0_there 24 = .ok (.iload_n 2, 1) := by decide +kernel
theorem dX0_there_25 : decode cX0_there 25 = .ok (.invokestatic 57, 3) := by decide +kernel
theorem dX0_there_28 : decode cX0_there 28 = .ok (.putfield 13, 3) := by decide +kernel
theorem dX0_there_31 : decode cX0_there 31 = .ok (.iload_n 3, 1) := by decide +kernel
theorem dX0_there_32 : decode cX0_there 32 = .ok (.ireturn, 1) := by decide +kernel
set_option maxRecDepth 20000 in
theorem ggX0_deaf_X0_isRouter : GoodIn wsX0_deaf wsX0_isRouter := goodIn_r _ [5] (by decide +kernel) (by decide +kernel)
set_option maxRecDepth 20000 in
theorem gX0_deaf_X0_isRouter : GoodIn wsX0_deaf (va_wsS RX0 50 yX0_isRouter wsX0_isRouter) := goodIn_app (goodIn_of _ (by decide +kernel)) ggX0_deaf_X0_isRouter
set_option maxRecDepth 20000 in
theorem ggX0_deaf_X0_hasBit : GoodIn wsX0_deaf wsX0_hasBit := goodIn_r _ [8] (by decide +kernel) (by decide +kernel)
set_option maxRecDepth 20000 in
theorem gX0_deaf_X0_hasBit : GoodIn wsX0_deaf (va_wsS RX0 61 yX0_hasBit wsX0_hasBit) := goodIn_app (goodIn_of _ (by decide +kernel)) ggX0_deaf_X0_hasBit
set_option maxRecDepth 20000 in
theorem ggX0_deaf_X0_withBit : GoodIn wsX0_deaf wsX0_withBit := goodIn_r _ [11] (by decide +kernel) (by decide +kernel)
set_option maxRecDepth 20000 in
theorem gX0_deaf_X0_withBit : GoodIn wsX0_deaf (va_wsS RX0 57 yX0_withBit wsX0_withBit) := goodIn_app (goodIn_of _ (by decide +kernel)) ggX0_deaf_X0_withBit
theorem dX0_deaf_0 : decode cX0_deaf 0 = .ok (.iload_n 1, 1) := by decide +kernel
theorem dX0_deaf_1 : decode cX0_deaf 1 = .ok (.invokestatic 50, 3) := by decide +kernel
theorem dX0_deaf_4 : decode cX0_deaf 4 = .ok (.ifCond .ne 5, 3) := by decide +kernel
theorem dX0_deaf_7 : decode cX0_deaf 7 = .ok (.iconst 0, 1) := by decide +kernel
theorem dX0_deaf_8 : decode cX0_deaf 8 = .ok (.ireturn, 1) := by decide +kernel
theorem dX0_deaf_9 : decode cX0_deaf 9 = .ok (.aload_n 0, 1) := by decide +kernel
theorem dX0_deaf_10 : decode cX0_deaf 10 = .ok (.getfield 16, 3) := by decide +kernel
theorem dX0_deaf_13 : decode cX0_deaf 13 = .ok (.iload_n 1, 1) := by decide +kernel
theorem dX0_deaf_14 : decode cX0_deaf 14 = .ok (.invokestatic 61, 3) := by decide +kernel
theorem dX0_deaf_17 : decode cX0_deaf 17 = .ok (.istore_n 3, 1) := by decide +kernel
theorem dX0_deaf_18 : decode cX0_deaf 18 = .ok (.aload_n 0, 1) := by decide +kernel
theorem dX0_deaf_19 : decode cX0_deaf 19 = .ok (.aload_n 0, 1) := by decide +kernel
theorem dX0_deaf_20 : decode cX0_deaf 20 = .ok (.getfield 16, 3) := by decide +kernel
theorem dX0_deaf_23 : decode cX0_deaf 23 = .ok (.iload_n 1, 1) := by decide +kernel
theorem dX0_deaf_24 : decode cX0_deaf 24 = .ok (.iload_n 2, 1) := by decide +kernel
theorem dX0_deaf_25 : decode cX0_deaf 25 = .ok (.invokestatic 57, 3) := by decide +kernel
theorem dX0_deaf_28 : decode cX0_deaf 28 = .ok (.putfield 16, 3) := by decide +kernel
theorem dX0_deaf_31 : decode cX0_deaf 31 = .ok (.iload_n 3, 1) := by decide +kernel
theorem dX0_deaf_32 : decode cX0_deaf 32 = .ok (.ireturn, 1) := by decide +kernel
set_option maxRecDepth 20000 in
theorem ggX0_data_X0_isRouter : GoodIn wsX0_data wsX0_isRouter := goodIn_r _ [8] (by decide +kernel) (by decide +kernel)
set_option maxRecDepth 20000 in
theorem gX0_data_X0_isRouter : GoodIn wsX0_data (va_wsS RX0 50 yX0_isRouter wsX0_isRouter) := goodIn_app (goodIn_of _ (by decide +kernel)) ggX0_data_X0_isRouter
set_option maxRecDepth 20000 in
theorem ggX0_data_X0_isSource : GoodIn wsX0_data wsX0_isSource := goodIn_r _ [11] (by decide +kernel) (by decide +kernel)
set_option maxRecDepth 20000 in
theorem gX0_data_X0_isSource : GoodIn wsX0_data (va_wsS RX0 54 yX0_isSource wsX0_isSource) := goodIn_app (goodIn_of _ (by decide +kernel)) ggX0_data_X0_isSource
set_option maxRecDepth 20000 in
theorem ggX0_data_X0_hasBit : GoodIn wsX0_data wsX0_hasBit := goodIn_r _ [14] (by decide +kernel) (by decide +kernel)
set_option maxRecDepth 20000 in
theorem gX0_data_X0_hasBit : GoodIn wsX0_data (va_wsS RX0 61 yX0_hasBit wsX0_hasBit) := goodIn_app (goodIn_of _ (by decide +kernel)) ggX0_data_X0_hasBit
set_option maxRecDepth 20000 in
theorem ggX0_data_X0_sayFirstClaims : GoodIn wsX0_data wsX0_sayFirstClaims := goodIn_r _ [18, 19, 20, 21, 7, 22, 1, 23, 12, 13, 14, 24, 25, 26, 27, 28, 29, 30, 31, 32, 33, 34, 35, 36, 37, 38, 39, 40, 41, 42, 43, 44, 45, 46, 47, 48, 49, 50, 51, 52, 53, 2, 3, 62, 63, 64, 65, 66, 67, 68, 69, 70, 71] (by decide +kernel) (by decide +kernel)
set_option maxRecDepth 20000 in
theorem gX0_data_X0_sayFirstClaims : GoodIn wsX0_data (wsV RX0 65 RX0 yX0_sayFirstClaims wsX0_sayFirstClaims) := goodIn_app (goodIn_of _ (by decide +kernel)) ggX0_data_X0_sayFirstClaims
set_option maxRecDepth 20000 in
theorem ggX0_data_X0_hearClaim : GoodIn wsX0_data wsX0_hearClaim := goodIn_r _ [57, 37, 29, 30, 7, 31, 19, 20, 21, 22, 1, 23, 12, 13, 14, 58, 59, 60, 61, 36, 43, 42, 38, 39, 40, 41, 44, 45, 46, 47, 48, 49, 24, 25, 26, 27, 28, 32, 33, 34, 35, 50, 51, 52, 53, 2, 3, 62, 63, 64, 65, 66, 67, 68, 69, 70, 71] (by decide +kernel) (by decide +kernel)
set_option maxRecDepth 20000 in
theorem gX0_data_X0_hearClaim : GoodIn wsX0_data (wsV RX0 69 RX0 yX0_hearClaim wsX0_hearClaim) := goodIn_app (goodIn_of _ (by decide +kernel)) ggX0_data_X0_hearClaim
theorem dX0_data_0 : decode cX0_data 0 = .ok (.iload_n 1, 1) := by decide +kernel
theorem dX0_data_1 : decode cX0_data 1 = .ok (.invokestatic 50, 3) := by decide +kernel
theorem dX0_data_4 : decode cX0_data 4 = .ok (.ifCond .eq 21, 3) := by decide +kernel
theorem dX0_data_7 : decode cX0_data 7 = .ok (.iload_n 2, 1) := by decide +kernel
theorem dX0_data_8 : decode cX0_data 8 = .ok (.invokestatic 54, 3) := by decide +kernel
theorem dX0_data_11 : decode cX0_data 11 = .ok (.ifCond .eq 14, 3) := by decide +kernel
theorem dX0_data_14 : decode cX0_data 14 = .ok (.aload_n 0, 1) := by decide +kernel
theorem dX0_data_15 : decode cX0_data 15 = .ok (.getfield 13, 3) := by decide +kernel
theorem dX0_data_18 : decode cX0_data 18 = .ok (.iload_n 1, 1) := by decide +kernel
theorem dX0_data_19 : decode cX0_data 19 = .ok (.invokestatic 61, 3) := by decide +kernel
theorem dX0_data_22 : decode cX0_data 22 = .ok (.ifCond .ne 5, 3) := by decide +kernel
theorem dX0_data_25 : decode cX0_data 25 = .ok (.iconst (-1), 1) := by decide +kernel
theorem dX0_data_26 : decode cX0_data 26 = .ok (.ireturn, 1) := by decide +kernel
theorem dX0_data_27 : decode cX0_data 27 = .ok (.aload_n 0, 1) := by decide +kernel
theorem dX0_data_28 : decode cX0_data 28 = .ok (.iconst 0, 1) := by decide +kernel
theorem dX0_data_29 : decode cX0_data 29 = .ok (.putfield 38, 3) := by decide +kernel
theorem dX0_data_32 : decode cX0_data 32 = .ok (.aload_n 0, 1) := by decide +kernel
theorem dX0_data_33 : decode cX0_data 33 = .ok (.iload_n 1, 1) := by decide +kernel
theorem dX0_data_34 : decode cX0_data 34 = .ok (.iload_n 2, 1) := by decide +kernel
theorem dX0_data_35 : decode cX0_data 35 = .ok (.invokevirtual 65, 3) := by decide +kernel
theorem dX0_data_38 : decode cX0_data 38 = .ok (.iconst 0, 1) := by decide +kernel
theorem dX0_data_39 : decode cX0_data 39 = .ok (.istore_n 3, 1) := by decide +kernel
theorem dX0_data_40 : decode cX0_data 40 = .ok (.iload_n 3, 1) := by decide +kernel
theorem dX0_data_41 : decode cX0_data 41 = .ok (.aload_n 0, 1) := by decide +kernel
theorem dX0_data_42 : decode cX0_data 42 = .ok (.getfield 38, 3) := by decide +kernel
theorem dX0_data_45 : decode cX0_data 45 = .ok (.if_icmp .ge 27, 3) := by decide +kernel
theorem dX0_data_48 : decode cX0_data 48 = .ok (.iload_n 3, 1) := by decide +kernel
theorem dX0_data_49 : decode cX0_data 49 = .ok (.sipush 1023, 3) := by decide +kernel
theorem dX0_data_52 : decode cX0_data 52 = .ok (.if_icmp .ge 20, 3) := by decide +kernel
theorem dX0_data_55 : decode cX0_data 55 = .ok (.aload_n 0, 1) := by decide +kernel
theorem dX0_data_56 : decode cX0_data 56 = .ok (.aload_n 0, 1) := by decide +kernel
theorem dX0_data_57 : decode cX0_data 57 = .ok (.getfield 35, 3) := by decide +kernel
theorem dX0_data_60 : decode cX0_data 60 = .ok (.iload_n 3, 1) := by decide +kernel
theorem dX0_data_61 : decode cX0_data 61 = .ok (.iaload, 1) := by decide +kernel
theorem dX0_data_62 : decode cX0_data 62 = .ok (.iload_n 2, 1) := by decide +kernel
theorem dX0_data_63 : decode cX0_data 63 = .ok (.invokevirtual 69, 3) := by decide +kernel
theorem dX0_data_66 : decode cX0_data 66 = .ok (.iinc 3 1, 3) := by decide +kernel
theorem dX0_data_69 : decode cX0_data 69 = .ok (.goto (-29), 3) := by decide +kernel
theorem dX0_data_72 : decode cX0_data 72 = .ok (.aload_n 0, 1) := by decide +kernel
theorem dX0_data_73 : decode cX0_data 73 = .ok (.dup, 1) := by decide +kernel
theorem dX0_data_74 : decode cX0_data 74 = .ok (.getfield 19, 3) := by decide +kernel
theorem dX0_data_77 : decode cX0_data 77 = .ok (.aload_n 0, 1) := by decide +kernel
theorem dX0_data_78 : decode cX0_data 78 = .ok (.getfield 38, 3) := by decide +kernel
theorem dX0_data_81 : decode cX0_data 81 = .ok (.iadd, 1) := by decide +kernel
theorem dX0_data_82 : decode cX0_data 82 = .ok (.putfield 19, 3) := by decide +kernel
theorem dX0_data_85 : decode cX0_data 85 = .ok (.aload_n 0, 1) := by decide +kernel
theorem dX0_data_86 : decode cX0_data 86 = .ok (.getfield 38, 3) := by decide +kernel
theorem dX0_data_89 : decode cX0_data 89 = .ok (.ireturn, 1) := by decide +kernel
theorem dX0_said_0 : decode cX0_said 0 = .ok (.iload_n 1, 1) := by decide +kernel
theorem dX0_said_1 : decode cX0_said 1 = .ok (.ifCond .lt 18, 3) := by decide +kernel
theorem dX0_said_4 : decode cX0_said 4 = .ok (.iload_n 1, 1) := by decide +kernel
theorem dX0_said_5 : decode cX0_said 5 = .ok (.aload_n 0, 1) := by decide +kernel
theorem dX0_said_6 : decode cX0_said 6 = .ok (.getfield 38, 3) := by decide +kernel
theorem dX0_said_9 : decode cX0_said 9 = .ok (.if_icmp .ge 10, 3) := by decide +kernel
theorem dX0_said_12 : decode cX0_said 12 = .ok (.iload_n 1, 1) := by decide +kernel
theorem dX0_said_13 : decode cX0_said 13 = .ok (.sipush 1023, 3) := by decide +kernel
theorem dX0_said_16 : decode cX0_said 16 = .ok (.if_icmp .lt 5, 3) := by decide +kernel
theorem dX0_said_19 : decode cX0_said 19 = .ok (.iconst (-1), 1) := by decide +kernel
theorem dX0_said_20 : decode cX0_said 20 = .ok (.ireturn, 1) := by decide +kernel
theorem dX0_said_21 : decode cX0_said 21 = .ok (.aload_n 0, 1) := by decide +kernel
theorem dX0_said_22 : decode cX0_said 22 = .ok (.getfield 35, 3) := by decide +kernel
theorem dX0_said_25 : decode cX0_said 25 = .ok (.iload_n 1, 1) := by decide +kernel
theorem dX0_said_26 : decode cX0_said 26 = .ok (.iaload, 1) := by decide +kernel
theorem dX0_said_27 : decode cX0_said 27 = .ok (.ireturn, 1) := by decide +kernel
set_option maxRecDepth 20000 in
theorem ggX0_claim_X0_isRouter : GoodIn wsX0_claim wsX0_isRouter := goodIn_r _ [5] (by decide +kernel) (by decide +kernel)
set_option maxRecDepth 20000 in
theorem gX0_claim_X0_isRouter : GoodIn wsX0_claim (va_wsS RX0 50 yX0_isRouter wsX0_isRouter) := goodIn_app (goodIn_of _ (by decide +kernel)) ggX0_claim_X0_isRouter
set_option maxRecDepth 20000 in
theorem ggX0_claim_X0_isSource : GoodIn wsX0_claim wsX0_isSource := goodIn_r _ [8] (by decide +kernel) (by decide +kernel)
set_option maxRecDepth 20000 in
theorem gX0_claim_X0_isSource : GoodIn wsX0_claim (va_wsS RX0 54 yX0_isSource wsX0_isSource) := goodIn_app (goodIn_of _ (by decide +kernel)) ggX0_claim_X0_isSource
set_option maxRecDepth 20000 in
theorem ggX0_claim_X0_cellOf : GoodIn wsX0_claim wsX0_cellOf := goodIn_r _ [11] (by decide +kernel) (by decide +kernel)
set_option maxRecDepth 20000 in
theorem gX0_claim_X0_cellOf : GoodIn wsX0_claim (va_wsS RX0 41 yX0_cellOf wsX0_cellOf) := goodIn_app (goodIn_of _ (by decide +kernel)) ggX0_claim_X0_cellOf
theorem dX0_claim_0 : decode cX0_claim 0 = .ok (.iload_n 1, 1) := by decide +kernel
theorem dX0_claim_1 : decode cX0_claim 1 = .ok (.invokestatic 50, 3) := by decide +kernel
theorem dX0_claim_4 : decode cX0_claim 4 = .ok (.ifCond .eq 10, 3) := by decide +kernel
theorem dX0_claim_7 : decode cX0_claim 7 = .ok (.iload_n 2, 1) := by decide +kernel
theorem dX0_claim_8 : decode cX0_claim 8 = .ok (.invokestatic 54, 3) := by decide +kernel
theorem dX0_claim_11 : decode cX0_claim 11 = .ok (.ifCond .ne 5, 3) := by decide +kernel
theorem dX0_claim_14 : decode cX0_claim 14 = .ok (.iconst (-1), 1) := by decide +kernel
theorem dX0_claim_15 : decode cX0_claim 15 = .ok (.ireturn, 1) := by decide +kernel
theorem dX0_claim_16 : decode cX0_claim 16 = .ok (.aload_n 0, 1) := by decide +kernel
theorem dX0_claim_17 : decode cX0_claim 17 = .ok (.getfield 26, 3) := by decide +kernel
theorem dX0_claim_20 : decode cX0_claim 20 = .ok (.iload_n 1, 1) := by decide +kernel
theorem dX0_claim_21 : decode cX0_claim 21 = .ok (.iload_n 2, 1) := by decide +kernel
theorem dX0_claim_22 : decode cX0_claim 22 = .ok (.invokestatic 41, 3) := by decide +kernel
theorem dX0_claim_25 : decode cX0_claim 25 = .ok (.iaload, 1) := by decide +kernel
theorem dX0_claim_26 : decode cX0_claim 26 = .ok (.ireturn, 1) := by decide +kernel
set_option maxRecDepth 20000 in
theorem ggX0_kept_X0_isRouter : GoodIn wsX0_kept wsX0_isRouter := goodIn_r _ [5] (by decide +kernel) (by decide +kernel)
set_option maxRecDepth 20000 in
theorem gX0_kept_X0_isRouter : GoodIn wsX0_kept (va_wsS RX0 50 yX0_isRouter wsX0_isRouter) := goodIn_app (goodIn_of _ (by decide +kernel)) ggX0_kept_X0_isRouter
set_option maxRecDepth 20000 in
theorem ggX0_kept_X0_isSource : GoodIn wsX0_kept wsX0_isSource := goodIn_r _ [8] (by decide +kernel) (by decide +kernel)
set_option maxRecDepth 20000 in
theorem gX0_kept_X0_isSource : GoodIn wsX0_kept (va_wsS RX0 54 yX0_isSource wsX0_isSource) := goodIn_app (goodIn_of _ (by decide +kernel)) ggX0_kept_X0_isSource
set_option maxRecDepth 20000 in
theorem ggX0_kept_X0_cellOf : GoodIn wsX0_kept wsX0_cellOf := goodIn_r _ [11] (by decide +kernel) (by decide +kernel)
set_option maxRecDepth 20000 in
theorem gX0_kept_X0_cellOf : GoodIn wsX0_kept (va_wsS RX0 41 yX0_cellOf wsX0_cellOf) := goodIn_app (goodIn_of _ (by decide +kernel)) ggX0_kept_X0_cellOf
set_option maxRecDepth 20000 in
theorem ggX0_kept_X0_keepsOne : GoodIn wsX0_kept wsX0_keepsOne := goodIn_r _ [15, 16, 17, 18, 1, 19, 20, 4, 21, 22, 23, 24, 25, 26, 27, 28, 29, 30, 31, 32, 33, 34] (by decide +kernel) (by decide +kernel)
set_option maxRecDepth 20000 in
theorem gX0_kept_X0_keepsOne : GoodIn wsX0_kept (wsV RX0 72 RX0 yX0_keepsOne wsX0_keepsOne) := goodIn_app (goodIn_of _ (by decide +kernel)) ggX0_kept_X0_keepsOne
theorem dX0_kept_0 : decode cX0_kept 0 = .ok (.iload_n 1, 1) := by decide +kernel
theorem dX0_kept_1 : decode cX0_kept 1 = .ok (.invokestatic 50, 3) := by decide +kernel
theorem dX0_kept_4 : decode cX0_kept 4 = .ok (.ifCond .eq 22, 3) := by decide +kernel
theorem dX0_kept_7 : decode cX0_kept 7 = .ok (.iload_n 2, 1) := by decide +kernel
theorem dX0_kept_8 : decode cX0_kept 8 = .ok (.invokestatic 54, 3) := by decide +kernel
theorem dX0_kept_11 : decode cX0_kept 11 = .ok (.ifCond .eq 15, 3) := by decide +kernel
theorem dX0_kept_14 : decode cX0_kept 14 = .ok (.aload_n 0, 1) := by decide +kernel
theorem dX0_kept_15 : decode cX0_kept 15 = .ok (.iload_n 1, 1) := by decide +kernel
theorem dX0_kept_16 : decode cX0_kept 16 = .ok (.iload_n 2, 1) := by decide +kernel
theorem dX0_kept_17 : decode cX0_kept 17 = .ok (.invokestatic 41, 3) := by decide +kernel
theorem dX0_kept_20 : decode cX0_kept 20 = .ok (.invokevirtual 72, 3) := by decide +kernel
theorem dX0_kept_23 : decode cX0_kept 23 = .ok (.ifCond .ne 5, 3) := by decide +kernel
theorem dX0_kept_26 : decode cX0_kept 26 = .ok (.iconst (-1), 1) := by decide +kernel
theorem dX0_kept_27 : decode cX0_kept 27 = .ok (.ireturn, 1) := by decide +kernel
theorem dX0_kept_28 : decode cX0_kept 28 = .ok (.aload_n 0, 1) := by decide +kernel
theorem dX0_kept_29 : decode cX0_kept 29 = .ok (.getfield 29, 3) := by decide +kernel
theorem dX0_kept_32 : decode cX0_kept 32 = .ok (.iload_n 1, 1) := by decide +kernel
theorem dX0_kept_33 : decode cX0_kept 33 = .ok (.iload_n 2, 1) := by decide +kernel
theorem dX0_kept_34 : decode cX0_kept 34 = .ok (.invokestatic 41, 3) := by decide +kernel
theorem dX0_kept_37 : decode cX0_kept 37 = .ok (.iaload, 1) := by decide +kernel
theorem dX0_kept_38 : decode cX0_kept 38 = .ok (.ireturn, 1) := by decide +kernel
set_option maxRecDepth 20000 in
theorem ggX0_lost_X0_isRouter : GoodIn wsX0_lost wsX0_isRouter := goodIn_r _ [4] (by decide +kernel) (by decide +kernel)
set_option maxRecDepth 20000 in
theorem gX0_lost_X0_isRouter : GoodIn wsX0_lost (va_wsS RX0 50 yX0_isRouter wsX0_isRouter) := goodIn_app (goodIn_of _ (by decide +kernel)) ggX0_lost_X0_isRouter
set_option maxRecDepth 20000 in
theorem ggX0_lost_X0_isSource : GoodIn wsX0_lost wsX0_isSource := goodIn_r _ [7] (by decide +kernel) (by decide +kernel)
set_option maxRecDepth 20000 in
theorem gX0_lost_X0_isSource : GoodIn wsX0_lost (va_wsS RX0 54 yX0_isSource wsX0_isSource) := goodIn_app (goodIn_of _ (by decide +kernel)) ggX0_lost_X0_isSource
set_option maxRecDepth 20000 in
theorem ggX0_lost_X0_cellOf : GoodIn wsX0_lost wsX0_cellOf := goodIn_r _ [10] (by decide +kernel) (by decide +kernel)
set_option maxRecDepth 20000 in
theorem gX0_lost_X0_cellOf : GoodIn wsX0_lost (va_wsS RX0 41 yX0_cellOf wsX0_cellOf) := goodIn_app (goodIn_of _ (by decide +kernel)) ggX0_lost_X0_cellOf
set_option maxRecDepth 20000 in
theorem ggX0_lost_X0_isLost : GoodIn wsX0_lost wsX0_isLost := goodIn_r _ [14, 15, 16, 17, 18, 19, 3, 20, 21, 22, 23, 24, 25, 26, 27, 28, 29, 30, 31, 32, 33, 34, 35, 36, 37, 38, 39, 40, 41, 42] (by decide +kernel) (by decide +kernel)
set_option maxRecDepth 20000 in
theorem gX0_lost_X0_isLost : GoodIn wsX0_lost (wsV RX0 75 RX0 yX0_isLost wsX0_isLost) := goodIn_app (goodIn_of _ (by decide +kernel)) ggX0_lost_X0_isLost
theorem dX0_lost_0 : decode cX0_lost 0 = .ok (.iload_n 1, 1) := by decide +kernel
theorem dX0_lost_1 : decode cX0_lost 1 = .ok (.invokestatic 50, 3) := by decide +kernel
theorem dX0_lost_4 : decode cX0_lost 4 = .ok (.ifCond .eq 26, 3) := by decide +kernel
theorem dX0_lost_7 : decode cX0_lost 7 = .ok (.iload_n 2, 1) := by decide +kernel
theorem dX0_lost_8 : decode cX0_lost 8 = .ok (.invokestatic 54, 3) := by decide +kernel
theorem dX0_lost_11 : decode cX0_lost 11 = .ok (.ifCond .eq 19, 3) := by decide +kernel
theorem dX0_lost_14 : decode cX0_lost 14 = .ok (.aload_n 0, 1) := by decide +kernel
theorem dX0_lost_15 : decode cX0_lost 15 = .ok (.iload_n 1, 1) := by decide +kernel
theorem dX0_lost_16 : decode cX0_lost 16 = .ok (.iload_n 2, 1) := by decide +kernel
theorem dX0_lost_17 : decode cX0_lost 17 = .ok (.invokestatic 41, 3) := by decide +kernel
theorem dX0_lost_20 : decode cX0_lost 20 = .ok (.invokevirtual 75, 3) := by decide +kernel
theorem dX0_lost_23 : decode cX0_lost 23 = .ok (.ifCond .eq 7, 3) := by decide +kernel
theorem dX0_lost_26 : decode cX0_lost 26 = .ok (.iconst 1, 1) := by decide +kernel
theorem dX0_lost_27 : decode cX0_lost 27 = .ok (.goto 4, 3) := by decide +kernel
theorem dX0_lost_30 : decode cX0_lost 30 = .ok (.iconst 0, 1) := by decide +kernel
theorem dX0_lost_31 : decode cX0_lost 31 = .ok (.ireturn, 1) := by decide +kernel
set_option maxRecDepth 20000 in
theorem ggX0_sends_X0_isSource : GoodIn wsX0_sends wsX0_isSource := goodIn_r _ [4] (by decide +kernel) (by decide +kernel)
set_option maxRecDepth 20000 in
theorem gX0_sends_X0_isSource : GoodIn wsX0_sends (va_wsS RX0 54 yX0_isSource wsX0_isSource) := goodIn_app (goodIn_of _ (by decide +kernel)) ggX0_sends_X0_isSource
set_option maxRecDepth 20000 in
theorem ggX0_sends_X0_isSender : GoodIn wsX0_sends wsX0_isSender := goodIn_r _ [8, 9, 10, 11, 12, 3, 13, 14, 15, 16, 17, 18, 19, 20, 21, 22, 23, 24, 25, 26, 27, 28, 29, 30, 31, 32, 33, 34, 38, 39, 40, 41, 42, 43, 44, 45, 46, 47] (by decide +kernel) (by decide +kernel)
set_option maxRecDepth 20000 in
theorem gX0_sends_X0_isSender : GoodIn wsX0_sends (wsV RX0 78 RX0 yX0_isSender wsX0_isSender) := goodIn_app (goodIn_of _ (by decide +kernel)) ggX0_sends_X0_isSender
set_option maxRecDepth 20000 in
theorem ggX0_sends_X0_withBit : GoodIn wsX0_sends wsX0_withBit := goodIn_r _ [37] (by decide +kernel) (by decide +kernel)
set_option maxRecDepth 20000 in
theorem gX0_sends_X0_withBit : GoodIn wsX0_sends (va_wsS RX0 57 yX0_withBit wsX0_withBit) := goodIn_app (goodIn_of _ (by decide +kernel)) ggX0_sends_X0_withBit
theorem dX0_sends_0 : decode cX0_sends 0 = .ok (.iload_n 1, 1) := by decide +kernel
theorem dX0_sends_1 : decode cX0_sends 1 = .ok (.invokestatic 54, 3) := by decide +kernel
theorem dX0_sends_4 : decode cX0_sends 4 = .ok (.ifCond .ne 5, 3) := by decide +kernel
theorem dX0_sends_7 : decode cX0_sends 7 = .ok (.iconst (-1), 1) := by decide +kernel
theorem dX0_sends_8 : decode cX0_sends 8 = .ok (.ireturn, 1) := by decide +kernel
theorem dX0_sends_9 : decode cX0_sends 9 = .ok (.iconst 0, 1) := by decide +kernel
theorem dX0_sends_10 : decode cX0_sends 10 = .ok (.istore_n 2, 1) := by decide +kernel
theorem dX0_sends_11 : decode cX0_sends 11 = .ok (.iconst 0, 1) := by decide +kernel
theorem dX0_sends_12 : decode cX0_sends 12 = .ok (.istore_n 3, 1) := by decide +kernel
theorem dX0_sends_13 : decode cX0_sends 13 = .ok (.iload_n 3, 1) := by decide +kernel
theorem dX0_sends_14 : decode cX0_sends 14 = .ok (.bipush 10, 2) := by decide +kernel
theorem dX0_sends_16 : decode cX0_sends 16 = .ok (.if_icmp .ge 21, 3) := by decide +kernel
theorem dX0_sends_19 : decode cX0_sends 19 = .ok (.iload_n 2, 1) := by decide +kernel
theorem dX0_sends_20 : decode cX0_sends 20 = .ok (.iload_n 3, 1) := by decide +kernel
theorem dX0_sends_21 : decode cX0_sends 21 = .ok (.aload_n 0, 1) := by decide +kernel
theorem dX0_sends_22 : decode cX0_sends 22 = .ok (.iload_n 3, 1) := by decide +kernel
theorem dX0_sends_23 : decode cX0_sends 23 = .ok (.iload_n 1, 1) := by decide +kernel
theorem dX0_sends_24 : decode cX0_sends 24 = .ok (.invokevirtual 78, 3) := by decide +kernel
theorem dX0_sends_27 : decode cX0_sends 27 = .ok (.invokestatic 57, 3) := by decide +kernel
theorem dX0_sends_30 : decode cX0_sends 30 = .ok (.istore_n 2, 1) := by decide +kernel
theorem dX0_sends_31 : decode cX0_sends 31 = .ok (.iinc 3 1, 3) := by decide +kernel
theorem dX0_sends_34 : decode cX0_sends 34 = .ok (.goto (-21), 3) := by decide +kernel
theorem dX0_sends_37 : decode cX0_sends 37 = .ok (.iload_n 2, 1) := by decide +kernel
theorem dX0_sends_38 : decode cX0_sends 38 = .ok (.ireturn, 1) := by decide +kernel
theorem dX0_look_0 : decode cX0_look 0 = .ok (.iload_n 1, 1) := by decide +kernel
theorem dX0_look_1 : decode cX0_look 1 = .ok (.tableswitch 51 0 3 #[31, 36, 41, 46], 31) := by decide +kernel
theorem dX0_look_32 : decode cX0_look 32 = .ok (.aload_n 0, 1) := by decide +kernel
theorem dX0_look_33 : decode cX0_look 33 = .ok (.getfield 7, 3) := by decide +kernel
theorem dX0_look_36 : decode cX0_look 36 = .ok (.ireturn, 1) := by decide +kernel
theorem dX0_look_37 : decode cX0_look 37 = .ok (.aload_n 0, 1) := by decide +kernel
theorem dX0_look_38 : decode cX0_look 38 = .ok (.getfield 13, 3) := by decide +kernel
theorem dX0_look_41 : decode cX0_look 41 = .ok (.ireturn, 1) := by decide +kernel
theorem dX0_look_42 : decode cX0_look 42 = .ok (.aload_n 0, 1) := by decide +kernel
theorem dX0_look_43 : decode cX0_look 43 = .ok (.getfield 16, 3) := by decide +kernel
theorem dX0_look_46 : decode cX0_look 46 = .ok (.ireturn, 1) := by decide +kernel
theorem dX0_look_47 : decode cX0_look 47 = .ok (.aload_n 0, 1) := by decide +kernel
theorem dX0_look_48 : decode cX0_look 48 = .ok (.getfield 19, 3) := by decide +kernel
theorem dX0_look_51 : decode cX0_look 51 = .ok (.ireturn, 1) := by decide +kernel
theorem dX0_look_52 : decode cX0_look 52 = .ok (.iconst (-1), 1) := by decide +kernel
theorem dX0_look_53 : decode cX0_look 53 = .ok (.ireturn, 1) := by decide +kernel
set_option maxRecDepth 20000 in
theorem ggX0_sayFirstClaims_X0_isListener : GoodIn wsX0_sayFirstClaims wsX0_isListener := goodIn_r _ [5, 6, 7, 8, 9, 4, 10, 43, 44, 45, 46, 47, 48, 49, 50, 51, 52] (by decide +kernel) (by decide +kernel)
set_option maxRecDepth 20000 in
theorem gX0_sayFirstClaims_X0_isListener : GoodIn wsX0_sayFirstClaims (wsV RX0 81 RX0 yX0_isListener wsX0_isListener) := goodIn_app (goodIn_of _ (by decide +kernel)) ggX0_sayFirstClaims_X0_isListener
set_option maxRecDepth 20000 in
theorem ggX0_sayFirstClaims_X0_isSender : GoodIn wsX0_sayFirstClaims wsX0_isSender := goodIn_r _ [14, 6, 15, 8, 9, 4, 10, 16, 17, 18, 19, 20, 21, 22, 23, 24, 25, 26, 27, 28, 29, 30, 31, 32, 33, 34, 35, 36, 43, 44, 45, 46, 47, 48, 49, 50, 51, 52] (by decide +kernel) (by decide +kernel)
set_option maxRecDepth 20000 in
theorem gX0_sayFirstClaims_X0_isSender : GoodIn wsX0_sayFirstClaims (wsV RX0 78 RX0 yX0_isSender wsX0_isSender) := goodIn_app (goodIn_of _ (by decide +kernel)) ggX0_sayFirstClaims_X0_isSender
set_option maxRecDepth 20000 in
theorem ggX0_sayFirstClaims_X0_sayClaim : GoodIn wsX0_sayFirstClaims wsX0_sayClaim := goodIn_r _ [40, 41, 42, 43, 44, 45, 46, 47, 48, 49, 50, 51, 52] (by decide +kernel) (by decide +kernel)
set_option maxRecDepth 20000 in
theorem gX0_sayFirstClaims_X0_sayClaim : GoodIn wsX0_sayFirstClaims (wsV RX0 84 RX0 yX0_sayClaim wsX0_sayClaim) := goodIn_app (goodIn_of _ (by decide +kernel)) ggX0_sayFirstClaims_X0_sayClaim
theorem dX0_sayFirstClaims_0 : decode cX0_sayFirstClaims 0 = .ok (.iconst 0, 1) := by decide +kernel
theorem dX0_sayFirstClaims_1 : decode cX0_sayFirstClaims 1 = .ok (.istore_n 3, 1) := by decide +kernel
theorem dX0_sayFirstClaims_2 : decode cX0_sayFirstClaims 2 = .ok (.iload_n 3, 1) := by decide +kernel
theorem dX0_sayFirstClaims_3 : decode cX0_sayFirstClaims 3 = .ok (.bipush 10, 2) := by decide +kernel
theorem dX0_sayFirstClaims_5 : decode cX0_sayFirstClaims 5 = .ok (.if_icmp .ge 36, 3) := by decide +kernel
theorem dX0_sayFirstClaims_8 : decode cX0_sayFirstClaims 8 = .ok (.iload_n 3, 1) := by decide +kernel
theorem dX0_sayFirstClaims_9 : decode cX0_sayFirstClaims 9 = .ok (.iload_n 1, 1) := by decide +kernel
theorem dX0_sayFirstClaims_10 : decode cX0_sayFirstClaims 10 = .ok (.if_icmp .eq 25, 3) := by decide +kernel
theorem dX0_sayFirstClaims_13 : decode cX0_sayFirstClaims 13 = .ok (.aload_n 0, 1) := by decide +kernel
theorem dX0_sayFirstClaims_14 : decode cX0_sayFirstClaims 14 = .ok (.iload_n 3, 1) := by decide +kernel
theorem dX0_sayFirstClaims_15 : decode cX0_sayFirstClaims 15 = .ok (.invokevirtual 81, 3) := by decide +kernel
theorem dX0_sayFirstClaims_18 : decode cX0_sayFirstClaims 18 = .ok (.ifCond .eq 17, 3) := by decide +kernel
theorem dX0_sayFirstClaims_21 : decode cX0_sayFirstClaims 21 = .ok (.aload_n 0, 1) := by decide +kernel
theorem dX0_sayFirstClaims_22 : decode cX0_sayFirstClaims 22 = .ok (.iload_n 3, 1) := by decide +kernel
theorem dX0_sayFirstClaims_23 : decode cX0_sayFirstClaims 23 = .ok (.iload_n 2, 1) := by decide +kernel
theorem dX0_sayFirstClaims_24 : decode cX0_sayFirstClaims 24 = .ok (.invokevirtual 78, 3) := by decide +kernel
theorem dX0_sayFirstClaims_27 : decode cX0_sayFirstClaims 27 = .ok (.ifCond .eq 8, 3) := by decide +kernel
theorem dX0_sayFirstClaims_30 : decode cX0_sayFirstClaims 30 = .ok (.aload_n 0, 1) := by decide +kernel
theorem dX0_sayFirstClaims_31 : decode cX0_sayFirstClaims 31 = .ok (.iload_n 3, 1) := by decide +kernel
theorem dX0_sayFirstClaims_32 : decode cX0_sayFirstClaims 32 = .ok (.invokevirtual 84, 3) := by decide +kernel
theorem dX0_sayFirstClaims_35 : decode cX0_sayFirstClaims 35 = .ok (.iinc 3 1, 3) := by decide +kernel
theorem dX0_sayFirstClaims_38 : decode cX0_sayFirstClaims 38 = .ok (.goto (-36), 3) := by decide +kernel
theorem dX0_sayFirstClaims_41 : decode cX0_sayFirstClaims 41 = .ok (.return_, 1) := by decide +kernel
set_option maxRecDepth 20000 in
theorem ggX0_hearClaim_X0_cellOf : GoodIn wsX0_hearClaim wsX0_cellOf := goodIn_r _ [5] (by decide +kernel) (by decide +kernel)
set_option maxRecDepth 20000 in
theorem gX0_hearClaim_X0_cellOf : GoodIn wsX0_hearClaim (va_wsS RX0 41 yX0_cellOf wsX0_cellOf) := goodIn_app (goodIn_of _ (by decide +kernel)) ggX0_hearClaim_X0_cellOf
set_option maxRecDepth 20000 in
theorem ggX0_hearClaim_X0_isListener : GoodIn wsX0_hearClaim wsX0_isListener := goodIn_r _ [9, 10, 11, 12, 13, 4, 14, 47, 48, 49, 50, 51, 52, 53, 54, 55, 56] (by decide +kernel) (by decide +kernel)
set_option maxRecDepth 20000 in
theorem gX0_hearClaim_X0_isListener : GoodIn wsX0_hearClaim (wsV RX0 81 RX0 yX0_isListener wsX0_isListener) := goodIn_app (goodIn_of _ (by decide +kernel)) ggX0_hearClaim_X0_isListener
set_option maxRecDepth 20000 in
theorem ggX0_hearClaim_X0_keepIfDue : GoodIn wsX0_hearClaim wsX0_keepIfDue := goodIn_r _ [18, 19, 20, 21, 22, 23, 24, 4, 25, 10, 26, 27, 28, 12, 13, 14, 29, 30, 31, 47, 48, 49, 50, 51, 52, 53, 54, 55, 56] (by decide +kernel) (by decide +kernel)
set_option maxRecDepth 20000 in
theorem gX0_hearClaim_X0_keepIfDue : GoodIn wsX0_hearClaim (wsV RX0 88 RX0 yX0_keepIfDue wsX0_keepIfDue) := goodIn_app (goodIn_of _ (by decide +kernel)) ggX0_hearClaim_X0_keepIfDue
set_option maxRecDepth 20000 in
theorem ggX0_hearClaim_X0_isSender : GoodIn wsX0_hearClaim wsX0_isSender := goodIn_r _ [35, 10, 36, 12, 13, 4, 14, 2, 3, 5, 37, 38, 39, 40, 19, 1, 22, 23, 24, 25, 21, 20, 26, 27, 28, 29, 30, 31, 47, 48, 49, 50, 51, 52, 53, 54, 55, 56] (by decide +kernel) (by decide +kernel)
set_option maxRecDepth 20000 in
theorem gX0_hearClaim_X0_isSender : GoodIn wsX0_hearClaim (wsV RX0 78 RX0 yX0_isSender wsX0_isSender) := goodIn_app (goodIn_of _ (by decide +kernel)) ggX0_hearClaim_X0_isSender
set_option maxRecDepth 20000 in
theorem ggX0_hearClaim_X0_isBetter : GoodIn wsX0_hearClaim wsX0_isBetter := goodIn_r _ [31, 26, 27, 4, 28] (by decide +kernel) (by decide +kernel)
set_option maxRecDepth 20000 in
theorem gX0_hearClaim_X0_isBetter : GoodIn wsX0_hearClaim (va_wsS RX0 91 yX0_isBetter wsX0_isBetter) := goodIn_app (goodIn_of _ (by decide +kernel)) ggX0_hearClaim_X0_isBetter
set_option maxRecDepth 20000 in
theorem ggX0_hearClaim_X0_sayClaim : GoodIn wsX0_hearClaim wsX0_sayClaim := goodIn_r _ [44, 45, 46, 47, 48, 49, 50, 51, 52, 53, 54, 55, 56] (by decide +kernel) (by decide +kernel)
set_option maxRecDepth 20000 in
theorem gX0_hearClaim_X0_sayClaim : GoodIn wsX0_hearClaim (wsV RX0 84 RX0 yX0_sayClaim wsX0_sayClaim) := goodIn_app (goodIn_of _ (by decide +kernel)) ggX0_hearClaim_X0_sayClaim
theorem dX0_hearClaim_0 : decode cX0_hearClaim 0 = .ok (.aload_n 0, 1) := by decide +kernel
theorem dX0_hearClaim_1 : decode cX0_hearClaim 1 = .ok (.getfield 26, 3) := by decide +kernel
theorem dX0_hearClaim_4 : decode cX0_hearClaim 4 = .ok (.iload_n 1, 1) := by decide +kernel
theorem dX0_hearClaim_5 : decode cX0_hearClaim 5 = .ok (.iload_n 2, 1) := by decide +kernel
theorem dX0_hearClaim_6 : decode cX0_hearClaim 6 = .ok (.invokestatic 41, 3) := by decide +kernel
theorem dX0_hearClaim_9 : decode cX0_hearClaim 9 = .ok (.iaload, 1) := by decide +kernel
theorem dX0_hearClaim_10 : decode cX0_hearClaim 10 = .ok (.istore_n 3, 1) := by decide +kernel
theorem dX0_hearClaim_11 : decode cX0_hearClaim 11 = .ok (.iconst 0, 1) := by decide +kernel
theorem dX0_hearClaim_12 : decode cX0_hearClaim 12 = .ok (.istore 4, 2) := by decide +kernel
theorem dX0_hearClaim_14 : decode cX0_hearClaim 14 = .ok (.iload 4, 2) := by decide +kernel
theorem dX0_hearClaim_16 : decode cX0_hearClaim 16 = .ok (.bipush 10, 2) := by decide +kernel
theorem dX0_hearClaim_18 : decode cX0_hearClaim 18 = .ok (.if_icmp .ge 69, 3) := by decide +kernel
theorem dX0_hearClaim_21 : decode cX0_hearClaim 21 = .ok (.iload 4, 2) := by decide +kernel
theorem dX0_hearClaim_23 : decode cX0_hearClaim 23 = .ok (.iload_n 1, 1) := by decide +kernel
theorem dX0_hearClaim_24 : decode cX0_hearClaim 24 = .ok (.if_icmp .eq 57, 3) := by decide +kernel
theorem dX0_hearClaim_27 : decode cX0_hearClaim 27 = .ok (.aload_n 0, 1) := by decide +kernel
theorem dX0_hearClaim_28 : decode cX0_hearClaim 28 = .ok (.iload 4, 2) := by decide +kernel
theorem dX0_hearClaim_30 : decode cX0_hearClaim 30 = .ok (.invokevirtual 81, 3) := by decide +kernel
theorem dX0_hearClaim_33 : decode cX0_hearClaim 33 = .ok (.ifCond .eq 48, 3) := by decide +kernel
theorem dX0_hearClaim_36 : decode cX0_hearClaim 36 = .ok (.aload_n 0, 1) := by decide +kernel
theorem dX0_hearClaim_37 : decode cX0_hearClaim 37 = .ok (.iload 4, 2) := by decide +kernel
theorem dX0_hearClaim_39 : decode cX0_hearClaim 39 = .ok (.iload_n 2, 1) := by decide +kernel
theorem dX0_hearClaim_40 : decode cX0_hearClaim 40 = .ok (.invokestatic 41, 3) := by decide +kernel
theorem dX0_hearClaim_43 : decode cX0_hearClaim 43 = .ok (.iload_n 3, 1) := by decide +kernel
theorem dX0_hearClaim_44 : decode cX0_hearClaim 44 = .ok (.invokevirtual 88, 3) := by decide +kernel
theorem dX0_hearClaim_47 : decode cX0_hearClaim 47 = .ok (.aload_n 0, 1) := by decide +kernel
theorem dX0_hearClaim_48 : decode cX0_hearClaim 48 = .ok (.iload 4, 2) := by decide +kernel
theorem dX0_hearClaim_50 : decode cX0_hearClaim 50 = .ok (.iload_n 2, 1) := by decide +kernel
theorem dX0_hearClaim_51 : decode cX0_hearClaim 51 = .ok (.invokevirtual 78, 3) := by decide +kernel
theorem dX0_hearClaim_54 : decode cX0_hearClaim 54 = .ok (.ifCond .eq 27, 3) := by decide +kernel
theorem dX0_hearClaim_57 : decode cX0_hearClaim 57 = .ok (.aload_n 0, 1) := by decide +kernel
theorem dX0_hearClaim_58 : decode cX0_hearClaim 58 = .ok (.getfield 26, 3) := by decide +kernel
theorem dX0_hearClaim_61 : decode cX0_hearClaim 61 = .ok (.iload 4, 2) := by decide +kernel
theorem dX0_hearClaim_63 : decode cX0_hearClaim 63 = .ok (.iload_n 2, 1) := by decide +kernel
theorem dX0_hearClaim_64 : decode cX0_hearClaim 64 = .ok (.invokestatic 41, 3) := by decide +kernel
theorem dX0_hearClaim_67 : decode cX0_hearClaim 67 = .ok (.iaload, 1) := by decide +kernel
theorem dX0_hearClaim_68 : decode cX0_hearClaim 68 = .ok (.iload_n 3, 1) := by decide +kernel
theorem dX0_hearClaim_69 : decode cX0_hearClaim 69 = .ok (.invokestatic 91, 3) := by decide +kernel
theorem dX0_hearClaim_72 : decode cX0_hearClaim 72 = .ok (.ifCond .eq 9, 3) := by decide +kernel
theorem dX0_hearClaim_75 : decode cX0_hearClaim 75 = .ok (.aload_n 0, 1) := by decide +kernel
theorem dX0_hearClaim_76 : decode cX0_hearClaim 76 = .ok (.iload 4, 2) := by decide +kernel
theorem dX0_hearClaim_78 : decode cX0_hearClaim 78 = .ok (.invokevirtual 84, 3) := by decide +kernel
theorem dX0_hearClaim_81 : decode cX0_hearClaim 81 = .ok (.iinc 4 1, 3) := by decide +kernel
theorem dX0_hearClaim_84 : decode cX0_hearClaim 84 = .ok (.goto (-70), 3) := by decide +kernel
theorem dX0_hearClaim_87 : decode cX0_hearClaim 87 = .ok (.return_, 1) := by decide +kernel
theorem dX0_sayClaim_0 : decode cX0_sayClaim 0 = .ok (.aload_n 0, 1) := by decide +kernel
theorem dX0_sayClaim_1 : decode cX0_sayClaim 1 = .ok (.getfield 38, 3) := by decide +kernel
theorem dX0_sayClaim_4 : decode cX0_sayClaim 4 = .ok (.sipush 1023, 3) := by decide +kernel
theorem dX0_sayClaim_7 : decode cX0_sayClaim 7 = .ok (.if_icmp .ge 23, 3) := by decide +kernel
theorem dX0_sayClaim_10 : decode cX0_sayClaim 10 = .ok (.aload_n 0, 1) := by decide +kernel
theorem dX0_sayClaim_11 : decode cX0_sayClaim 11 = .ok (.getfield 35, 3) := by decide +kernel
theorem dX0_sayClaim_14 : decode cX0_sayClaim 14 = .ok (.aload_n 0, 1) := by decide +kernel
theorem dX0_sayClaim_15 : decode cX0_sayClaim 15 = .ok (.getfield 38, 3) := by decide +kernel
theorem dX0_sayClaim_18 : decode cX0_sayClaim 18 = .ok (.iload_n 1, 1) := by decide +kernel
theorem dX0_sayClaim_19 : decode cX0_sayClaim 19 = .ok (.iastore, 1) := by decide +kernel
theorem dX0_sayClaim_20 : decode cX0_sayClaim 20 = .ok (.aload_n 0, 1) := by decide +kernel
theorem dX0_sayClaim_21 : decode cX0_sayClaim 21 = .ok (.dup, 1) := by decide +kernel
theorem dX0_sayClaim_22 : decode cX0_sayClaim 22 = .ok (.getfield 38, 3) := by decide +kernel
theorem dX0_sayClaim_25 : decode cX0_sayClaim 25 = .ok (.iconst 1, 1) := by decide +kernel
theorem dX0_sayClaim_26 : decode cX0_sayClaim 26 = .ok (.iadd, 1) := by decide +kernel
theorem dX0_sayClaim_27 : decode cX0_sayClaim 27 = .ok (.putfield 38, 3) := by decide +kernel
theorem dX0_sayClaim_30 : decode cX0_sayClaim 30 = .ok (.return_, 1) := by decide +kernel
set_option maxRecDepth 20000 in
theorem ggX0_keepIfDue_X0_keepsOne : GoodIn wsX0_keepIfDue wsX0_keepsOne := goodIn_r _ [8, 3, 2, 9, 1, 10, 11, 7, 12, 13, 14, 15, 19, 20, 21, 22, 23, 24, 25, 26, 27, 28] (by decide +kernel) (by decide +kernel)
set_option maxRecDepth 20000 in
theorem gX0_keepIfDue_X0_keepsOne : GoodIn wsX0_keepIfDue (wsV RX0 72 RX0 yX0_keepsOne wsX0_keepsOne) := goodIn_app (goodIn_of _ (by decide +kernel)) ggX0_keepIfDue_X0_keepsOne
set_option maxRecDepth 20000 in
theorem ggX0_keepIfDue_X0_isBetter : GoodIn wsX0_keepIfDue wsX0_isBetter := goodIn_r _ [18, 10, 11, 7, 12] (by decide +kernel) (by decide +kernel)
set_option maxRecDepth 20000 in
theorem gX0_keepIfDue_X0_isBetter : GoodIn wsX0_keepIfDue (va_wsS RX0 91 yX0_isBetter wsX0_isBetter) := goodIn_app (goodIn_of _ (by decide +kernel)) ggX0_keepIfDue_X0_isBetter
set_option maxRecDepth 20000 in
theorem ggX0_keepIfDue_X0_routerOf : GoodIn wsX0_keepIfDue wsX0_routerOf := goodIn_r _ [12] (by decide +kernel) (by decide +kernel)
set_option maxRecDepth 20000 in
theorem gX0_keepIfDue_X0_routerOf : GoodIn wsX0_keepIfDue (va_wsS RX0 94 yX0_routerOf wsX0_routerOf) := goodIn_app (goodIn_of _ (by decide +kernel)) ggX0_keepIfDue_X0_routerOf
theorem dX0_keepIfDue_0 : decode cX0_keepIfDue 0 = .ok (.aload_n 0, 1) := by decide +kernel
theorem dX0_keepIfDue_1 : decode cX0_keepIfDue 1 = .ok (.getfield 29, 3) := by decide +kernel
theorem dX0_keepIfDue_4 : decode cX0_keepIfDue 4 = .ok (.iload_n 1, 1) := by decide +kernel
theorem dX0_keepIfDue_5 : decode cX0_keepIfDue 5 = .ok (.iaload, 1) := by decide +kernel
theorem dX0_keepIfDue_6 : decode cX0_keepIfDue 6 = .ok (.istore_n 3, 1) := by decide +kernel
theorem dX0_keepIfDue_7 : decode cX0_keepIfDue 7 = .ok (.aload_n 0, 1) := by decide +kernel
theorem dX0_keepIfDue_8 : decode cX0_keepIfDue 8 = .ok (.iload_n 1, 1) := by decide +kernel
theorem dX0_keepIfDue_9 : decode cX0_keepIfDue 9 = .ok (.invokevirtual 72, 3) := by decide +kernel
theorem dX0_keepIfDue_12 : decode cX0_keepIfDue 12 = .ok (.ifCond .eq 22, 3) := by decide +kernel
theorem dX0_keepIfDue_15 : decode cX0_keepIfDue 15 = .ok (.iload_n 2, 1) := by decide +kernel
theorem dX0_keepIfDue_16 : decode cX0_keepIfDue 16 = .ok (.iload_n 3, 1) := by decide +kernel
theorem dX0_keepIfDue_17 : decode cX0_keepIfDue 17 = .ok (.invokestatic 91, 3) := by decide +kernel
theorem dX0_keepIfDue_20 : decode cX0_keepIfDue 20 = .ok (.ifCond .ne 14, 3) := by decide +kernel
theorem dX0_keepIfDue_23 : decode cX0_keepIfDue 23 = .ok (.iload_n 2, 1) := by decide +kernel
theorem dX0_keepIfDue_24 : decode cX0_keepIfDue 24 = .ok (.invokestatic 94, 3) := by decide +kernel
theorem dX0_keepIfDue_27 : decode cX0_keepIfDue 27 = .ok (.iload_n 3, 1) := by decide +kernel
theorem dX0_keepIfDue_28 : decode cX0_keepIfDue 28 = .ok (.invokestatic 94, 3) := by decide +kernel
theorem dX0_keepIfDue_31 : decode cX0_keepIfDue 31 = .ok (.if_icmp .ne 23, 3) := by decide +kernel
theorem dX0_keepIfDue_34 : decode cX0_keepIfDue 34 = .ok (.aload_n 0, 1) := by decide +kernel
theorem dX0_keepIfDue_35 : decode cX0_keepIfDue 35 = .ok (.getfield 29, 3) := by decide +kernel
theorem dX0_keepIfDue_38 : decode cX0_keepIfDue 38 = .ok (.iload_n 1, 1) := by decide +kernel
theorem dX0_keepIfDue_39 : decode cX0_keepIfDue 39 = .ok (.iload_n 2, 1) := by decide +kernel
theorem dX0_keepIfDue_40 : decode cX0_keepIfDue 40 = .ok (.iastore, 1) := by decide +kernel
theorem dX0_keepIfDue_41 : decode cX0_keepIfDue 41 = .ok (.aload_n 0, 1) := by decide +kernel
theorem dX0_keepIfDue_42 : decode cX0_keepIfDue 42 = .ok (.getfield 32, 3) := by decide +kernel
theorem dX0_keepIfDue_45 : decode cX0_keepIfDue 45 = .ok (.iload_n 1, 1) := by decide +kernel
theorem dX0_keepIfDue_46 : decode cX0_keepIfDue 46 = .ok (.aload_n 0, 1) := by decide +kernel
theorem dX0_keepIfDue_47 : decode cX0_keepIfDue 47 = .ok (.getfield 7, 3) := by decide +kernel
theorem dX0_keepIfDue_50 : decode cX0_keepIfDue 50 = .ok (.bipush 60, 2) := by decide +kernel
theorem dX0_keepIfDue_52 : decode cX0_keepIfDue 52 = .ok (.iadd, 1) := by decide +kernel
theorem dX0_keepIfDue_53 : decode cX0_keepIfDue 53 = .ok (.iastore, 1) := by decide +kernel
theorem dX0_keepIfDue_54 : decode cX0_keepIfDue 54 = .ok (.return_, 1) := by decide +kernel
set_option maxRecDepth 20000 in
theorem ggX0_keepsOne_X0_routerOf : GoodIn wsX0_keepsOne wsX0_routerOf := goodIn_r _ [8] (by decide +kernel) (by decide +kernel)
set_option maxRecDepth 20000 in
theorem gX0_keepsOne_X0_routerOf : GoodIn wsX0_keepsOne (va_wsS RX0 94 yX0_routerOf wsX0_routerOf) := goodIn_app (goodIn_of _ (by decide +kernel)) ggX0_keepsOne_X0_routerOf
set_option maxRecDepth 20000 in
theorem ggX0_keepsOne_X0_hasBit : GoodIn wsX0_keepsOne wsX0_hasBit := goodIn_r _ [11] (by decide +kernel) (by decide +kernel)
set_option maxRecDepth 20000 in
theorem gX0_keepsOne_X0_hasBit : GoodIn wsX0_keepsOne (va_wsS RX0 61 yX0_hasBit wsX0_hasBit) := goodIn_app (goodIn_of _ (by decide +kernel)) ggX0_keepsOne_X0_hasBit
theorem dX0_keepsOne_0 : decode cX0_keepsOne 0 = .ok (.aload_n 0, 1) := by decide +kernel
theorem dX0_keepsOne_1 : decode cX0_keepsOne 1 = .ok (.getfield 7, 3) := by decide +kernel
theorem dX0_keepsOne_4 : decode cX0_keepsOne 4 = .ok (.aload_n 0, 1) := by decide +kernel
theorem dX0_keepsOne_5 : decode cX0_keepsOne 5 = .ok (.getfield 32, 3) := by decide +kernel
theorem dX0_keepsOne_8 : decode cX0_keepsOne 8 = .ok (.iload_n 1, 1) := by decide +kernel
theorem dX0_keepsOne_9 : decode cX0_keepsOne 9 = .ok (.iaload, 1) := by decide +kernel
theorem dX0_keepsOne_10 : decode cX0_keepsOne 10 = .ok (.if_icmp .ge 26, 3) := by decide +kernel
theorem dX0_keepsOne_13 : decode cX0_keepsOne 13 = .ok (.aload_n 0, 1) := by decide +kernel
theorem dX0_keepsOne_14 : decode cX0_keepsOne 14 = .ok (.getfield 13, 3) := by decide +kernel
theorem dX0_keepsOne_17 : decode cX0_keepsOne 17 = .ok (.aload_n 0, 1) := by decide +kernel
theorem dX0_keepsOne_18 : decode cX0_keepsOne 18 = .ok (.getfield 29, 3) := by decide +kernel
theorem dX0_keepsOne_21 : decode cX0_keepsOne 21 = .ok (.iload_n 1, 1) := by decide +kernel
theorem dX0_keepsOne_22 : decode cX0_keepsOne 22 = .ok (.iaload, 1) := by decide +kernel
theorem dX0_keepsOne_23 : decode cX0_keepsOne 23 = .ok (.invokestatic 94, 3) := by decide +kernel
theorem dX0_keepsOne_26 : decode cX0_keepsOne 26 = .ok (.invokestatic 61, 3) := by decide +kernel
theorem dX0_keepsOne_29 : decode cX0_keepsOne 29 = .ok (.ifCond .eq 7, 3) := by decide +kernel
theorem dX0_keepsOne_32 : decode cX0_keepsOne 32 = .ok (.iconst 1, 1) := by decide +kernel
theorem dX0_keepsOne_33 : decode cX0_keepsOne 33 = .ok (.goto 4, 3) := by decide +kernel
theorem dX0_keepsOne_36 : decode cX0_keepsOne 36 = .ok (.iconst 0, 1) := by decide +kernel
theorem dX0_keepsOne_37 : decode cX0_keepsOne 37 = .ok (.ireturn, 1) := by decide +kernel
set_option maxRecDepth 20000 in
theorem ggX0_isLost_X0_keepsOne : GoodIn wsX0_isLost wsX0_keepsOne := goodIn_r _ [7, 8, 9, 10, 1, 11, 12, 6, 13, 14, 15, 16, 20, 21, 22, 23, 24, 25, 26, 27, 28, 29] (by decide +kernel) (by decide +kernel)
set_option maxRecDepth 20000 in
theorem gX0_isLost_X0_keepsOne : GoodIn wsX0_isLost (wsV RX0 72 RX0 yX0_keepsOne wsX0_keepsOne) := goodIn_app (goodIn_of _ (by decide +kernel)) ggX0_isLost_X0_keepsOne
set_option maxRecDepth 20000 in
theorem ggX0_isLost_X0_isBetter : GoodIn wsX0_isLost wsX0_isBetter := goodIn_r _ [19, 11, 12, 6, 13] (by decide +kernel) (by decide +kernel)
set_option maxRecDepth 20000 in
theorem gX0_isLost_X0_isBetter : GoodIn wsX0_isLost (va_wsS RX0 91 yX0_isBetter wsX0_isBetter) := goodIn_app (goodIn_of _ (by decide +kernel)) ggX0_isLost_X0_isBetter
theorem dX0_isLost_0 : decode cX0_isLost 0 = .ok (.aload_n 0, 1) := by decide +kernel
theorem dX0_isLost_1 : decode cX0_isLost 1 = .ok (.iload_n 1, 1) := by decide +kernel
theorem dX0_isLost_2 : decode cX0_isLost 2 = .ok (.invokevirtual 72, 3) := by decide +kernel
theorem dX0_isLost_5 : decode cX0_isLost 5 = .ok (.ifCond .eq 25, 3) := by decide +kernel
theorem dX0_isLost_8 : decode cX0_isLost 8 = .ok (.aload_n 0, 1) := by decide +kernel
theorem dX0_isLost_9 : decode cX0_isLost 9 = .ok (.getfield 29, 3) := by decide +kernel
theorem dX0_isLost_12 : decode cX0_isLost 12 = .ok (.iload_n 1, 1) := by decide +kernel
theorem dX0_isLost_13 : decode cX0_isLost 13 = .ok (.iaload, 1) := by decide +kernel
theorem dX0_isLost_14 : decode cX0_isLost 14 = .ok (.aload_n 0, 1) := by decide +kernel
theorem dX0_isLost_15 : decode cX0_isLost 15 = .ok (.getfield 26, 3) := by decide +kernel
theorem dX0_isLost_18 : decode cX0_isLost 18 = .ok (.iload_n 1, 1) := by decide +kernel
theorem dX0_isLost_19 : decode cX0_isLost 19 = .ok (.iaload, 1) := by decide +kernel
theorem dX0_isLost_20 : decode cX0_isLost 20 = .ok (.invokestatic 91, 3) := by decide +kernel
theorem dX0_isLost_23 : decode cX0_isLost 23 = .ok (.ifCond .eq 7, 3) := by decide +kernel
theorem dX0_isLost_26 : decode cX0_isLost 26 = .ok (.iconst 1, 1) := by decide +kernel
theorem dX0_isLost_27 : decode cX0_isLost 27 = .ok (.goto 4, 3) := by decide +kernel
theorem dX0_isLost_30 : decode cX0_isLost 30 = .ok (.iconst 0, 1) := by decide +kernel
theorem dX0_isLost_31 : decode cX0_isLost 31 = .ok (.ireturn, 1) := by decide +kernel
set_option maxRecDepth 20000 in
theorem ggX0_isSender_X0_hasBit : GoodIn wsX0_isSender wsX0_hasBit := goodIn_r _ [6] (by decide +kernel) (by decide +kernel)
set_option maxRecDepth 20000 in
theorem gX0_isSender_X0_hasBit : GoodIn wsX0_isSender (va_wsS RX0 61 yX0_hasBit wsX0_hasBit) := goodIn_app (goodIn_of _ (by decide +kernel)) ggX0_isSender_X0_hasBit
set_option maxRecDepth 20000 in
theorem ggX0_isSender_X0_cellOf : GoodIn wsX0_isSender wsX0_cellOf := goodIn_r _ [9] (by decide +kernel) (by decide +kernel)
set_option maxRecDepth 20000 in
theorem gX0_isSender_X0_cellOf : GoodIn wsX0_isSender (va_wsS RX0 41 yX0_cellOf wsX0_cellOf) := goodIn_app (goodIn_of _ (by decide +kernel)) ggX0_isSender_X0_cellOf
set_option maxRecDepth 20000 in
theorem ggX0_isSender_X0_isLost : GoodIn wsX0_isSender wsX0_isLost := goodIn_r _ [13, 14, 15, 16, 17, 18, 5, 19, 20, 21, 1, 22, 23, 24, 3, 4, 6, 25, 26, 27, 28, 29, 30, 31, 32, 33, 34, 35, 36, 37] (by decide +kernel) (by decide +kernel)
set_option maxRecDepth 20000 in
theorem gX0_isSender_X0_isLost : GoodIn wsX0_isSender (wsV RX0 75 RX0 yX0_isLost wsX0_isLost) := goodIn_app (goodIn_of _ (by decide +kernel)) ggX0_isSender_X0_isLost
theorem dX0_isSender_0 : decode cX0_isSender 0 = .ok (.aload_n 0, 1) := by decide +kernel
theorem dX0_isSender_1 : decode cX0_isSender 1 = .ok (.getfield 13, 3) := by decide +kernel
theorem dX0_isSender_4 : decode cX0_isSender 4 = .ok (.iload_n 1, 1) := by decide +kernel
theorem dX0_isSender_5 : decode cX0_isSender 5 = .ok (.invokestatic 61, 3) := by decide +kernel
theorem dX0_isSender_8 : decode cX0_isSender 8 = .ok (.ifCond .eq 32, 3) := by decide +kernel
theorem dX0_isSender_11 : decode cX0_isSender 11 = .ok (.aload_n 0, 1) := by decide +kernel
theorem dX0_isSender_12 : decode cX0_isSender 12 = .ok (.getfield 22, 3) := by decide +kernel
theorem dX0_isSender_15 : decode cX0_isSender 15 = .ok (.iload_n 2, 1) := by decide +kernel
theorem dX0_isSender_16 : decode cX0_isSender 16 = .ok (.iaload, 1) := by decide +kernel
theorem dX0_isSender_17 : decode cX0_isSender 17 = .ok (.iload_n 1, 1) := by decide +kernel
theorem dX0_isSender_18 : decode cX0_isSender 18 = .ok (.invokestatic 61, 3) := by decide +kernel
theorem dX0_isSender_21 : decode cX0_isSender 21 = .ok (.ifCond .eq 19, 3) := by decide +kernel
theorem dX0_isSender_24 : decode cX0_isSender 24 = .ok (.aload_n 0, 1) := by decide +kernel
theorem dX0_isSender_25 : decode cX0_isSender 25 = .ok (.iload_n 1, 1) := by decide +kernel
theorem dX0_isSender_26 : decode cX0_isSender 26 = .ok (.iload_n 2, 1) := by decide +kernel
theorem dX0_isSender_27 : decode cX0_isSender 27 = .ok (.invokestatic 41, 3) := by decide +kernel
theorem dX0_isSender_30 : decode cX0_isSender 30 = .ok (.invokevirtual 75, 3) := by decide +kernel
theorem dX0_isSender_33 : decode cX0_isSender 33 = .ok (.ifCond .ne 7, 3) := by decide +kernel
theorem dX0_isSender_36 : decode cX0_isSender 36 = .ok (.iconst 1, 1) := by decide +kernel
theorem dX0_isSender_37 : decode cX0_isSender 37 = .ok (.goto 4, 3) := by decide +kernel
theorem dX0_isSender_40 : decode cX0_isSender 40 = .ok (.iconst 0, 1) := by decide +kernel
theorem dX0_isSender_41 : decode cX0_isSender 41 = .ok (.ireturn, 1) := by decide +kernel
set_option maxRecDepth 20000 in
theorem ggX0_isListener_X0_hasBit : GoodIn wsX0_isListener wsX0_hasBit := goodIn_r _ [6] (by decide +kernel) (by decide +kernel)
set_option maxRecDepth 20000 in
theorem gX0_isListener_X0_hasBit : GoodIn wsX0_isListener (va_wsS RX0 61 yX0_hasBit wsX0_hasBit) := goodIn_app (goodIn_of _ (by decide +kernel)) ggX0_isListener_X0_hasBit
theorem dX0_isListener_0 : decode cX0_isListener 0 = .ok (.aload_n 0, 1) := by decide +kernel
theorem dX0_isListener_1 : decode cX0_isListener 1 = .ok (.getfield 13, 3) := by decide +kernel
theorem dX0_isListener_4 : decode cX0_isListener 4 = .ok (.iload_n 1, 1) := by decide +kernel
theorem dX0_isListener_5 : decode cX0_isListener 5 = .ok (.invokestatic 61, 3) := by decide +kernel
theorem dX0_isListener_8 : decode cX0_isListener 8 = .ok (.ifCond .eq 18, 3) := by decide +kernel
theorem dX0_isListener_11 : decode cX0_isListener 11 = .ok (.aload_n 0, 1) := by decide +kernel
theorem dX0_isListener_12 : decode cX0_isListener 12 = .ok (.getfield 16, 3) := by decide +kernel
theorem dX0_isListener_15 : decode cX0_isListener 15 = .ok (.iload_n 1, 1) := by decide +kernel
theorem dX0_isListener_16 : decode cX0_isListener 16 = .ok (.invokestatic 61, 3) := by decide +kernel
theorem dX0_isListener_19 : decode cX0_isListener 19 = .ok (.ifCond .ne 7, 3) := by decide +kernel
theorem dX0_isListener_22 : decode cX0_isListener 22 = .ok (.iconst 1, 1) := by decide +kernel
theorem dX0_isListener_23 : decode cX0_isListener 23 = .ok (.goto 4, 3) := by decide +kernel
theorem dX0_isListener_26 : decode cX0_isListener 26 = .ok (.iconst 0, 1) := by decide +kernel
theorem dX0_isListener_27 : decode cX0_isListener 27 = .ok (.ireturn, 1) := by decide +kernel
theorem dX0_isRouter_0 : decode cX0_isRouter 0 = .ok (.iload_n 0, 1) := by decide +kernel
theorem dX0_isRouter_1 : decode cX0_isRouter 1 = .ok (.ifCond .lt 13, 3) := by decide +kernel
theorem dX0_isRouter_4 : decode cX0_isRouter 4 = .ok (.iload_n 0, 1) := by decide +kernel
theorem dX0_isRouter_5 : decode cX0_isRouter 5 = .ok (.bipush 10, 2) := by decide +kernel
theorem dX0_isRouter_7 : decode cX0_isRouter 7 = .ok (.if_icmp .ge 7, 3) := by decide +kernel
theorem dX0_isRouter_10 : decode cX0_isRouter 10 = .ok (.iconst 1, 1) := by decide +kernel
theorem dX0_isRouter_11 : decode cX0_isRouter 11 = .ok (.goto 4, 3) := by decide +kernel
theorem dX0_isRouter_14 : decode cX0_isRouter 14 = .ok (.iconst 0, 1) := by decide +kernel
theorem dX0_isRouter_15 : decode cX0_isRouter 15 = .ok (.ireturn, 1) := by decide +kernel
theorem dX0_isSource_0 : decode cX0_isSource 0 = .ok (.iload_n 0, 1) := by decide +kernel
theorem dX0_isSource_1 : decode cX0_isSource 1 = .ok (.ifCond .lt 13, 3) := by decide +kernel
theorem dX0_isSource_4 : decode cX0_isSource 4 = .ok (.iload_n 0, 1) := by decide +kernel
theorem dX0_isSource_5 : decode cX0_isSource 5 = .ok (.bipush 16, 2) := by decide +kernel
theorem dX0_isSource_7 : decode cX0_isSource 7 = .ok (.if_icmp .ge 7, 3) := by decide +kernel
theorem dX0_isSource_10 : decode cX0_isSource 10 = .ok (.iconst 1, 1) := by decide +kernel
theorem dX0_isSource_11 : decode cX0_isSource 11 = .ok (.goto 4, 3) := by decide +kernel
theorem dX0_isSource_14 : decode cX0_isSource 14 = .ok (.iconst 0, 1) := by decide +kernel
theorem dX0_isSource_15 : decode cX0_isSource 15 = .ok (.ireturn, 1) := by decide +kernel
theorem dX0_cellOf_0 : decode cX0_cellOf 0 = .ok (.iload_n 0, 1) := by decide +kernel
theorem dX0_cellOf_1 : decode cX0_cellOf 1 = .ok (.bipush 16, 2) := by decide +kernel
theorem dX0_cellOf_3 : decode cX0_cellOf 3 = .ok (.imul, 1) := by decide +kernel
theorem dX0_cellOf_4 : decode cX0_cellOf 4 = .ok (.iload_n 1, 1) := by decide +kernel
theorem dX0_cellOf_5 : decode cX0_cellOf 5 = .ok (.iadd, 1) := by decide +kernel
theorem dX0_cellOf_6 : decode cX0_cellOf 6 = .ok (.ireturn, 1) := by decide +kernel
theorem dX0_claimOf_0 : decode cX0_claimOf 0 = .ok (.iload_n 1, 1) := by decide +kernel
theorem dX0_claimOf_1 : decode cX0_claimOf 1 = .ok (.ifCond .eq 7, 3) := by decide +kernel
theorem dX0_claimOf_4 : decode cX0_claimOf 4 = .ok (.iconst 0, 1) := by decide +kernel
theorem dX0_claimOf_5 : decode cX0_claimOf 5 = .ok (.goto 5, 3) := by decide +kernel
theorem dX0_claimOf_8 : decode cX0_claimOf 8 = .ok (.ldc 98, 2) := by decide +kernel
theorem dX0_claimOf_10 : decode cX0_claimOf 10 = .ok (.iload_n 2, 1) := by decide +kernel
theorem dX0_claimOf_11 : decode cX0_claimOf 11 = .ok (.bipush 100, 2) := by decide +kernel
theorem dX0_claimOf_13 : decode cX0_claimOf 13 = .ok (.imul, 1) := by decide +kernel
theorem dX0_claimOf_14 : decode cX0_claimOf 14 = .ok (.iadd, 1) := by decide +kernel
theorem dX0_claimOf_15 : decode cX0_claimOf 15 = .ok (.iload_n 0, 1) := by decide +kernel
theorem dX0_claimOf_16 : decode cX0_claimOf 16 = .ok (.iadd, 1) := by decide +kernel
theorem dX0_claimOf_17 : decode cX0_claimOf 17 = .ok (.ireturn, 1) := by decide +kernel
theorem dX0_routerOf_0 : decode cX0_routerOf 0 = .ok (.iload_n 0, 1) := by decide +kernel
theorem dX0_routerOf_1 : decode cX0_routerOf 1 = .ok (.bipush 100, 2) := by decide +kernel
theorem dX0_routerOf_3 : decode cX0_routerOf 3 = .ok (.irem, 1) := by decide +kernel
theorem dX0_routerOf_4 : decode cX0_routerOf 4 = .ok (.ireturn, 1) := by decide +kernel
set_option maxRecDepth 20000 in
theorem ggX0_isBetter_X0_routerOf : GoodIn wsX0_isBetter wsX0_routerOf := goodIn_r _ [4] (by decide +kernel) (by decide +kernel)
set_option maxRecDepth 20000 in
theorem gX0_isBetter_X0_routerOf : GoodIn wsX0_isBetter (va_wsS RX0 94 yX0_routerOf wsX0_routerOf) := goodIn_app (goodIn_of _ (by decide +kernel)) ggX0_isBetter_X0_routerOf
theorem dX0_isBetter_0 : decode cX0_isBetter 0 = .ok (.iload_n 0, 1) := by decide +kernel
theorem dX0_isBetter_1 : decode cX0_isBetter 1 = .ok (.bipush 100, 2) := by decide +kernel
theorem dX0_isBetter_3 : decode cX0_isBetter 3 = .ok (.idiv, 1) := by decide +kernel
theorem dX0_isBetter_4 : decode cX0_isBetter 4 = .ok (.istore_n 2, 1) := by decide +kernel
theorem dX0_isBetter_5 : decode cX0_isBetter 5 = .ok (.iload_n 1, 1) := by decide +kernel
theorem dX0_isBetter_6 : decode cX0_isBetter 6 = .ok (.bipush 100, 2) := by decide +kernel
theorem dX0_isBetter_8 : decode cX0_isBetter 8 = .ok (.idiv, 1) := by decide +kernel
theorem dX0_isBetter_9 : decode cX0_isBetter 9 = .ok (.istore_n 3, 1) := by decide +kernel
theorem dX0_isBetter_10 : decode cX0_isBetter 10 = .ok (.iload_n 2, 1) := by decide +kernel
theorem dX0_isBetter_11 : decode cX0_isBetter 11 = .ok (.iload_n 3, 1) := by decide +kernel
theorem dX0_isBetter_12 : decode cX0_isBetter 12 = .ok (.if_icmp .eq 14, 3) := by decide +kernel
theorem dX0_isBetter_15 : decode cX0_isBetter 15 = .ok (.iload_n 2, 1) := by decide +kernel
theorem dX0_isBetter_16 : decode cX0_isBetter 16 = .ok (.iload_n 3, 1) := by decide +kernel
theorem dX0_isBetter_17 : decode cX0_isBetter 17 = .ok (.if_icmp .ge 7, 3) := by decide +kernel
theorem dX0_isBetter_20 : decode cX0_isBetter 20 = .ok (.iconst 1, 1) := by decide +kernel
theorem dX0_isBetter_21 : decode cX0_isBetter 21 = .ok (.goto 4, 3) := by decide +kernel
theorem dX0_isBetter_24 : decode cX0_isBetter 24 = .ok (.iconst 0, 1) := by decide +kernel
theorem dX0_isBetter_25 : decode cX0_isBetter 25 = .ok (.ireturn, 1) := by decide +kernel
theorem dX0_isBetter_26 : decode cX0_isBetter 26 = .ok (.iload_n 0, 1) := by decide +kernel
theorem dX0_isBetter_27 : decode cX0_isBetter 27 = .ok (.invokestatic 94, 3) := by decide +kernel
theorem dX0_isBetter_30 : decode cX0_isBetter 30 = .ok (.iload_n 1, 1) := by decide +kernel
theorem dX0_isBetter_31 : decode cX0_isBetter 31 = .ok (.invokestatic 94, 3) := by decide +kernel
theorem dX0_isBetter_34 : decode cX0_isBetter 34 = .ok (.if_icmp .le 7, 3) := by decide +kernel
theorem dX0_isBetter_37 : decode cX0_isBetter 37 = .ok (.iconst 1, 1) := by decide +kernel
theorem dX0_isBetter_38 : decode cX0_isBetter 38 = .ok (.goto 4, 3) := by decide +kernel
theorem dX0_isBetter_41 : decode cX0_isBetter 41 = .ok (.iconst 0, 1) := by decide +kernel
theorem dX0_isBetter_42 : decode cX0_isBetter 42 = .ok (.ireturn, 1) := by decide +kernel
theorem dX0_hasBit_0 : decode cX0_hasBit 0 = .ok (.iload_n 0, 1) := by decide +kernel
theorem dX0_hasBit_1 : decode cX0_hasBit 1 = .ok (.iload_n 1, 1) := by decide +kernel
theorem dX0_hasBit_2 : decode cX0_hasBit 2 = .ok (.ishr, 1) := by decide +kernel
theorem dX0_hasBit_3 : decode cX0_hasBit 3 = .ok (.iconst 1, 1) := by decide +kernel
theorem dX0_hasBit_4 : decode cX0_hasBit 4 = .ok (.iand, 1) := by decide +kernel
theorem dX0_hasBit_5 : decode cX0_hasBit 5 = .ok (.ifCond .eq 7, 3) := by decide +kernel
theorem dX0_hasBit_8 : decode cX0_hasBit 8 = .ok (.iconst 1, 1) := by decide +kernel
theorem dX0_hasBit_9 : decode cX0_hasBit 9 = .ok (.goto 4, 3) := by decide +kernel
theorem dX0_hasBit_12 : decode cX0_hasBit 12 = .ok (.iconst 0, 1) := by decide +kernel
theorem dX0_hasBit_13 : decode cX0_hasBit 13 = .ok (.ireturn, 1) := by decide +kernel
theorem dX0_withBit_0 : decode cX0_withBit 0 = .ok (.iload_n 2, 1) := by decide +kernel
theorem dX0_withBit_1 : decode cX0_withBit 1 = .ok (.ifCond .eq 11, 3) := by decide +kernel
theorem dX0_withBit_4 : decode cX0_withBit 4 = .ok (.iload_n 0, 1) := by decide +kernel
theorem dX0_withBit_5 : decode cX0_withBit 5 = .ok (.iconst 1, 1) := by decide +kernel
theorem dX0_withBit_6 : decode cX0_withBit 6 = .ok (.iload_n 1, 1) := by decide +kernel
theorem dX0_withBit_7 : decode cX0_withBit 7 = .ok (.ishl, 1) := by decide +kernel
theorem dX0_withBit_8 : decode cX0_withBit 8 = .ok (.ior, 1) := by decide +kernel
theorem dX0_withBit_9 : decode cX0_withBit 9 = .ok (.goto 10, 3) := by decide +kernel
theorem dX0_withBit_12 : decode cX0_withBit 12 = .ok (.iload_n 0, 1) := by decide +kernel
theorem dX0_withBit_13 : decode cX0_withBit 13 = .ok (.iconst 1, 1) := by decide +kernel
theorem dX0_withBit_14 : decode cX0_withBit 14 = .ok (.iload_n 1, 1) := by decide +kernel
theorem dX0_withBit_15 : decode cX0_withBit 15 = .ok (.ishl, 1) := by decide +kernel
theorem dX0_withBit_16 : decode cX0_withBit 16 = .ok (.iconst (-1), 1) := by decide +kernel
theorem dX0_withBit_17 : decode cX0_withBit 17 = .ok (.ixor, 1) := by decide +kernel
theorem dX0_withBit_18 : decode cX0_withBit 18 = .ok (.iand, 1) := by decide +kernel
theorem dX0_withBit_19 : decode cX0_withBit 19 = .ok (.ireturn, 1) := by decide +kernel
theorem dX1_init_0 : decode cX1_init 0 = .ok (.aload_n 0, 1) := by decide +kernel
theorem dX1_init_1 : decode cX1_init 1 = .ok (.invokespecial 1, 3) := by decide +kernel
theorem dX1_init_4 : decode cX1_init 4 = .ok (.aload_n 0, 1) := by decide +kernel
theorem dX1_init_5 : decode cX1_init 5 = .ok (.bipush 10, 2) := by decide +kernel
theorem dX1_init_7 : decode cX1_init 7 = .ok (.newarray .boolean, 2) := by decide +kernel
theorem dX1_init_9 : decode cX1_init 9 = .ok (.putfield 7, 3) := by decide +kernel
theorem dX1_init_12 : decode cX1_init 12 = .ok (.aload_n 0, 1) := by decide +kernel
theorem dX1_init_13 : decode cX1_init 13 = .ok (.bipush 10, 2) := by decide +kernel
theorem dX1_init_15 : decode cX1_init 15 = .ok (.newarray .boolean, 2) := by decide +kernel
theorem dX1_init_17 : decode cX1_init 17 = .ok (.putfield 13, 3) := by decide +kernel
theorem dX1_init_20 : decode cX1_init 20 = .ok (.aload_n 0, 1) := by decide +kernel
theorem dX1_init_21 : decode cX1_init 21 = .ok (.sipush 160, 3) := by decide +kernel
theorem dX1_init_24 : decode cX1_init 24 = .ok (.newarray .boolean, 2) := by decide +kernel
theorem dX1_init_26 : decode cX1_init 26 = .ok (.putfield 16, 3) := by decide +kernel
theorem dX1_init_29 : decode cX1_init 29 = .ok (.aload_n 0, 1) := by decide +kernel
theorem dX1_init_30 : decode cX1_init 30 = .ok (.sipush 160, 3) := by decide +kernel
theorem dX1_init_33 : decode cX1_init 33 = .ok (.newarray .boolean, 2) := by decide +kernel
theorem dX1_init_35 : decode cX1_init 35 = .ok (.putfield 19, 3) := by decide +kernel
theorem dX1_init_38 : decode cX1_init 38 = .ok (.aload_n 0, 1) := by decide +kernel
theorem dX1_init_39 : decode cX1_init 39 = .ok (.sipush 160, 3) := by decide +kernel
theorem dX1_init_42 : decode cX1_init 42 = .ok (.newarray .int, 2) := by decide +kernel
theorem dX1_init_44 : decode cX1_init 44 = .ok (.putfield 22, 3) := by decide +kernel
theorem dX1_init_47 : decode cX1_init 47 = .ok (.aload_n 0, 1) := by decide +kernel
theorem dX1_init_48 : decode cX1_init 48 = .ok (.sipush 160, 3) := by decide +kernel
theorem dX1_init_51 : decode cX1_init 51 = .ok (.newarray .int, 2) := by decide +kernel
theorem dX1_init_53 : decode cX1_init 53 = .ok (.putfield 26, 3) := by decide +kernel
theorem dX1_init_56 : decode cX1_init 56 = .ok (.aload_n 0, 1) := by decide +kernel
theorem dX1_init_57 : decode cX1_init 57 = .ok (.sipush 160, 3) := by decide +kernel
theorem dX1_init_60 : decode cX1_init 60 = .ok (.newarray .int, 2) := by decide +kernel
theorem dX1_init_62 : decode cX1_init 62 = .ok (.putfield 29, 3) := by decide +kernel
theorem dX1_init_65 : decode cX1_init 65 = .ok (.aload_n 0, 1) := by decide +kernel
theorem dX1_init_66 : decode cX1_init 66 = .ok (.sipush 1024, 3) := by decide +kernel
theorem dX1_init_69 : decode cX1_init 69 = .ok (.newarray .int, 2) := by decide +kernel
theorem dX1_init_71 : decode cX1_init 71 = .ok (.putfield 32, 3) := by decide +kernel
theorem dX1_init_74 : decode cX1_init 74 = .ok (.iconst 0, 1) := by decide +kernel
theorem dX1_init_75 : decode cX1_init 75 = .ok (.istore_n 1, 1) := by decide +kernel
theorem dX1_init_76 : decode cX1_init 76 = .ok (.iload_n 1, 1) := by decide +kernel
theorem dX1_init_77 : decode cX1_init 77 = .ok (.sipush 160, 3) := by decide +kernel
theorem dX1_init_80 : decode cX1_init 80 = .ok (.if_icmp .ge 16, 3) := by decide +kernel
theorem dX1_init_83 : decode cX1_init 83 = .ok (.aload_n 0, 1) := by decide +kernel
theorem dX1_init_84 : decode cX1_init 84 = .ok (.getfield 26, 3) := by decide +kernel
theorem dX1_init_87 : decode cX1_init 87 = .ok (.iload_n 1, 1) := by decide +kernel
theorem dX1_init_88 : decode cX1_init 88 = .ok (.iconst (-1), 1) := by decide +kernel
theorem dX1_init_89 : decode cX1_init 89 = .ok (.iastore, 1) := by decide +kernel
theorem dX1_init_90 : decode cX1_init 90 = .ok (.iinc 1 1, 3) := by decide +kernel
theorem dX1_init_93 : decode cX1_init 93 = .ok (.goto (-17), 3) := by decide +kernel
theorem dX1_init_96 : decode cX1_init 96 = .ok (.return_, 1) := by decide +kernel
theorem dX1_isRouter_0 : decode cX1_isRouter 0 = .ok (.iload_n 0, 1) := by decide +kernel
theorem dX1_isRouter_1 : decode cX1_isRouter 1 = .ok (.ifCond .lt 13, 3) := by decide +kernel
theorem dX1_isRouter_4 : decode cX1_isRouter 4 = .ok (.iload_n 0, 1) := by decide +kernel
theorem dX1_isRouter_5 : decode cX1_isRouter 5 = .ok (.bipush 10, 2) := by decide +kernel
theorem dX1_isRouter_7 : decode cX1_isRouter 7 = .ok (.if_icmp .ge 7, 3) := by decide +kernel
theorem dX1_isRouter_10 : decode cX1_isRouter 10 = .ok (.iconst 1, 1) := by decide +kernel
theorem dX1_isRouter_11 : decode cX1_isRouter 11 = .ok (.goto 4, 3) := by decide +kernel
theorem dX1_isRouter_14 : decode cX1_isRouter 14 = .ok (.iconst 0, 1) := by decide +kernel
theorem dX1_isRouter_15 : decode cX1_isRouter 15 = .ok (.ireturn, 1) := by decide +kernel
set_option maxRecDepth 20000 in
theorem ggX1_isPair_X1_isRouter : GoodIn wsX1_isPair wsX1_isRouter := goodIn_r _ [4] (by decide +kernel) (by decide +kernel)
set_option maxRecDepth 20000 in
theorem gX1_isPair_X1_isRouter : GoodIn wsX1_isPair (va_wsS RX1 35 yX1_isRouter wsX1_isRouter) := goodIn_app (goodIn_of _ (by decide +kernel)) ggX1_isPair_X1_isRouter
theorem dX1_isPair_0 : decode cX1_isPair 0 = .ok (.iload_n 0, 1) := by decide +kernel
theorem dX1_isPair_1 : decode cX1_isPair 1 = .ok (.invokestatic 35, 3) := by decide +kernel
theorem dX1_isPair_4 : decode cX1_isPair 4 = .ok (.ifCond .eq 17, 3) := by decide +kernel
theorem dX1_isPair_7 : decode cX1_isPair 7 = .ok (.iload_n 1, 1) := by decide +kernel
theorem dX1_isPair_8 : decode cX1_isPair 8 = .ok (.ifCond .lt 13, 3) := by decide +kernel
theorem dX1_isPair_11 : decode cX1_isPair 11 = .ok (.iload_n 1, 1) := by decide +kernel
theorem dX1_isPair_12 : decode cX1_isPair 12 = .ok (.bipush 16, 2) := by decide +kernel
theorem dX1_isPair_14 : decode cX1_isPair 14 = .ok (.if_icmp .ge 7, 3) := by decide +kernel
theorem dX1_isPair_17 : decode cX1_isPair 17 = .ok (.iconst 1, 1) := by decide +kernel
theorem dX1_isPair_18 : decode cX1_isPair 18 = .ok (.goto 4, 3) := by decide +kernel
theorem dX1_isPair_21 : decode cX1_isPair 21 = .ok (.iconst 0, 1) := by decide +kernel
theorem dX1_isPair_22 : decode cX1_isPair 22 = .ok (.ireturn, 1) := by decide +kernel
theorem dX1_tick_0 : decode cX1_tick 0 = .ok (.iload_n 1, 1) := by decide +kernel
theorem dX1_tick_1 : decode cX1_tick 1 = .ok (.iconst 1, 1) := by decide +kernel
theorem dX1_tick_2 : decode cX1_tick 2 = .ok (.if_icmp .lt 20, 3) := by decide +kernel
theorem dX1_tick_5 : decode cX1_tick 5 = .ok (.iload_n 1, 1) := by decide +kernel
theorem dX1_tick_6 : decode cX1_tick 6 = .ok (.bipush 100, 2) := by decide +kernel
theorem dX1_tick_8 : decode cX1_tick 8 = .ok (.if_icmp .gt 14, 3) := by decide +kernel
theorem dX1_tick_11 : decode cX1_tick 11 = .ok (.aload_n 0, 1) := by decide +kernel
theorem dX1_tick_12 : decode cX1_tick 12 = .ok (.getfield 39, 3) := by decide +kernel
theorem dX1_tick_15 : decode cX1_tick 15 = .ok (.iload_n 1, 1) := by decide +kernel
theorem dX1_tick_16 : decode cX1_tick 16 = .ok (.iadd, 1) := by decide +kernel
theorem dX1_tick_17 : decode cX1_tick 17 = .ok (.ldc 43, 2) := by decide +kernel
theorem dX1_tick_19 : decode cX1_tick 19 = .ok (.if_icmp .le 5, 3) := by decide +kernel
theorem dX1_tick_22 : decode cX1_tick 22 = .ok (.iconst (-1), 1) := by decide +kernel
theorem dX1_tick_23 : decode cX1_tick 23 = .ok (.ireturn, 1) := by decide +kernel
theorem dX1_tick_24 : decode cX1_tick 24 = .ok (.aload_n 0, 1) := by decide +kernel
theorem dX1_tick_25 : decode cX1_tick 25 = .ok (.dup, 1) := by decide +kernel
theorem dX1_tick_26 : decode cX1_tick 26 = .ok (.getfield 39, 3) := by decide +kernel
theorem dX1_tick_29 : decode cX1_tick 29 = .ok (.iload_n 1, 1) := by decide +kernel
theorem dX1_tick_30 : decode cX1_tick 30 = .ok (.iadd, 1) := by decide +kernel
theorem dX1_tick_31 : decode cX1_tick 31 = .ok (.putfield 39, 3) := by decide +kernel
theorem dX1_tick_34 : decode cX1_tick 34 = .ok (.aload_n 0, 1) := by decide +kernel
theorem dX1_tick_35 : decode cX1_tick 35 = .ok (.getfield 39, 3) := by decide +kernel
theorem dX1_tick_38 : decode cX1_tick 38 = .ok (.ireturn, 1) := by decide +kernel
set_option maxRecDepth 20000 in
theorem ggX1_forward_X1_isPair : GoodIn wsX1_forward wsX1_isPair := goodIn_r _ [5, 6, 7, 4, 8] (by decide +kernel) (by decide +kernel)
set_option maxRecDepth 20000 in
theorem gX1_forward_X1_isPair : GoodIn wsX1_forward (va_wsS RX1 44 yX1_isPair wsX1_isPair) := goodIn_app (goodIn_of _ (by decide +kernel)) ggX1_forward_X1_isPair
theorem dX1_forward_0 : decode cX1_forward 0 = .ok (.iload_n 1, 1) := by decide +kernel
theorem dX1_forward_1 : decode cX1_forward 1 = .ok (.iload_n 2, 1) := by decide +kernel
theorem dX1_forward_2 : decode cX1_forward 2 = .ok (.invokestatic 44, 3) := by decide +kernel
theorem dX1_forward_5 : decode cX1_forward 5 = .ok (.ifCond .ne 5, 3) := by decide +kernel
theorem dX1_forward_8 : decode cX1_forward 8 = .ok (.iconst 0, 1) := by decide +kernel
theorem dX1_forward_9 : decode cX1_forward 9 = .ok (.ireturn, 1) := by decide +kernel
theorem dX1_forward_10 : decode cX1_forward 10 = .ok (.aload_n 0, 1) := by decide +kernel
theorem dX1_forward_11 : decode cX1_forward 11 = .ok (.getfield 16, 3) := by decide +kernel
theorem dX1_forward_14 : decode cX1_forward 14 = .ok (.bipush 16, 2) := by decide +kernel
theorem dX1_forward_16 : decode cX1_forward 16 = .ok (.iload_n 1, 1) := by decide +kernel
theorem dX1_forward_17 : decode cX1_forward 17 = .ok (.imul, 1) := by decide +kernel
theorem dX1_forward_18 : decode cX1_forward 18 = .ok (.iload_n 2, 1) := by decide +kernel
theorem dX1_forward_19 : decode cX1_forward 19 = .ok (.iadd, 1) := by decide +kernel
theorem dX1_forward_20 : decode cX1_forward 20 = .ok (.iload_n 3, 1) := by decide +kernel
theorem dX1_forward_21 : decode cX1_forward 21 = .ok (.bastore, 1) := by decide +kernel
theorem dX1_forward_22 : decode cX1_forward 22 = .ok (.iconst 1, 1) := by decide +kernel
theorem dX1_forward_23 : decode cX1_forward 23 = .ok (.ireturn, 1) := by decide +kernel
set_option maxRecDepth 20000 in
theorem ggX1_place_X1_isPair : GoodIn wsX1_place wsX1_isPair := goodIn_r _ [6, 7, 8, 5, 9] (by decide +kernel) (by decide +kernel)
set_option maxRecDepth 20000 in
theorem gX1_place_X1_isPair : GoodIn wsX1_place (va_wsS RX1 44 yX1_isPair wsX1_isPair) := goodIn_app (goodIn_of _ (by decide +kernel)) ggX1_place_X1_isPair
theorem dX1_place_0 : decode cX1_place 0 = .ok (.iload_n 1, 1) := by decide +kernel
theorem dX1_place_1 : decode cX1_place 1 = .ok (.iload_n 2, 1) := by decide +kernel
theorem dX1_place_2 : decode cX1_place 2 = .ok (.invokestatic 44, 3) := by decide +kernel
theorem dX1_place_5 : decode cX1_place 5 = .ok (.ifCond .eq 16, 3) := by decide +kernel
theorem dX1_place_8 : decode cX1_place 8 = .ok (.iload 4, 2) := by decide +kernel
theorem dX1_place_10 : decode cX1_place 10 = .ok (.ifCond .lt 11, 3) := by decide +kernel
theorem dX1_place_13 : decode cX1_place 13 = .ok (.iload 4, 2) := by decide +kernel
theorem dX1_place_15 : decode cX1_place 15 = .ok (.sipush 9999, 3) := by decide +kernel
theorem dX1_place_18 : decode cX1_place 18 = .ok (.if_icmp .le 5, 3) := by decide +kernel
theorem dX1_place_21 : decode cX1_place 21 = .ok (.iconst 0, 1) := by decide +kernel
theorem dX1_place_22 : decode cX1_place 22 = .ok (.ireturn, 1) := by decide +kernel
theorem dX1_place_23 : decode cX1_place 23 = .ok (.aload_n 0, 1) := by decide +kernel
theorem dX1_place_24 : decode cX1_place 24 = .ok (.getfield 19, 3) := by decide +kernel
theorem dX1_place_27 : decode cX1_place 27 = .ok (.bipush 16, 2) := by decide +kernel
theorem dX1_place_29 : decode cX1_place 29 = .ok (.iload_n 1, 1) := by decide +kernel
theorem dX1_place_30 : decode cX1_place 30 = .ok (.imul, 1) := by decide +kernel
theorem dX1_place_31 : decode cX1_place 31 = .ok (.iload_n 2, 1) := by decide +kernel
theorem dX1_place_32 : decode cX1_place 32 = .ok (.iadd, 1) := by decide +kernel
theorem dX1_place_33 : decode cX1_place 33 = .ok (.iload_n 3, 1) := by decide +kernel
theorem dX1_place_34 : decode cX1_place 34 = .ok (.bastore, 1) := by decide +kernel
theorem dX1_place_35 : decode cX1_place 35 = .ok (.aload_n 0, 1) := by decide +kernel
theorem dX1_place_36 : decode cX1_place 36 = .ok (.getfield 22, 3) := by decide +kernel
theorem dX1_place_39 : decode cX1_place 39 = .ok (.bipush 16, 2) := by decide +kernel
theorem dX1_place_41 : decode cX1_place 41 = .ok (.iload_n 1, 1) := by decide +kernel
theorem dX1_place_42 : decode cX1_place 42 = .ok (.imul, 1) := by decide +kernel
theorem dX1_place_43 : decode cX1_place 43 = .ok (.iload_n 2, 1) := by decide +kernel
theorem dX1_place_44 : decode cX1_place 44 = .ok (.iadd, 1) := by decide +kernel
theorem dX1_place_45 : decode cX1_place 45 = .ok (.iload 4, 2) := by decide +kernel
theorem dX1_place_47 : decode cX1_place 47 = .ok (.iastore, 1) := by decide +kernel
theorem dX1_place_48 : decode cX1_place 48 = .ok (.iconst 1, 1) := by decide +kernel
theorem dX1_place_49 : decode cX1_place 49 = .ok (.ireturn, 1) := by decide +kernel
set_option maxRecDepth 20000 in
theorem ggX1_there_X1_isRouter : GoodIn wsX1_there wsX1_isRouter := goodIn_r _ [5] (by decide +kernel) (by decide +kernel)
set_option maxRecDepth 20000 in
theorem gX1_there_X1_isRouter : GoodIn wsX1_there (va_wsS RX1 35 yX1_isRouter wsX1_isRouter) := goodIn_app (goodIn_of _ (by decide +kernel)) ggX1_there_X1_isRouter
theorem dX1_there_0 : decode cX1_there 0 = .ok (.iload_n 1, 1) := by decide +kernel
theorem dX1_there_1 : decode cX1_there 1 = .ok (.invokestatic 35, 3) := by decide +kernel
theorem dX1_there_4 : decode cX1_there 4 = .ok (.ifCond .ne 5, 3) := by decide +kernel
theorem dX1_there_7 : decode cX1_there 7 = .ok (.iconst 0, 1) := by decide +kernel
theorem dX1_there_8 : decode cX1_there 8 = .ok (.ireturn, 1) := by decide +kernel
theorem dX1_there_9 : decode cX1_there 9 = .ok (.aload_n 0, 1) := by decide +kernel
theorem dX1_there_10 : decode cX1_there 10 = .ok (.getfield 7, 3) := by decide +kernel
theorem dX1_there_13 : decode cX1_there 13 = .ok (.iload_n 1, 1) := by decide +kernel
theorem dX1_there_14 : decode cX1_there 14 = .ok (.baload, 1) := by decide +kernel
theorem dX1_there_15 : decode cX1_there 15 = .ok (.ifCond .ne 7, 3) := by decide +kernel
theorem dX1_there_18 : decode cX1_there 18 = .ok (.iconst 1, 1) := by decide +kernel
theorem dX1_there_19 : decode cX1_there 19 = .ok (.goto 4, 3) := by decide +kernel
theorem dX1_there_22 : decode cX1_there 22 = .ok (.iconst 0, 1) := by decide +kernel
theorem dX1_there_23 : decode cX1_there 23 = .ok (.istore_n 3, 1) := by decide +kernel
theorem dX1_there_24 : decode cX1_there 24 = .ok (.aload_n 0, 1) := by decide +kernel
theorem dX1_there_25 : decode cX1_there 25 = .ok (.getfield 7, 3) := by decide +kernel
theorem dX1_there_28 : decode cX1_there 28 = .ok (.iload_n 1, 1) := by decide +kernel
theorem dX1_there_29 : decode cX1_there 29 = .ok (.iload_n 2, 1) := by decide +kernel
theorem dX1_there_30 : decode cX1_there 30 = .ok (.ifCond .ne 7, 3) := by decide +kernel
theorem dX1_there_33 : decode cX1_there 33 = .ok (.iconst 1, 1) := by decide +kernel
theorem dX1_there_34 : decode cX1_there 34 = .ok (.goto 4, 3) := by decide +kernel
theorem dX1_there_37 : decode cX1_there 37 = .ok (.iconst 0, 1) := by decide +kernel
theorem dX1_there_38 : decode cX1_there 38 = .ok (.bastore, 1) := by decide +kernel
theorem dX1_there_39 : decode cX1_there 39 = .ok (.iload_n 3, 1) := by decide +kernel
theorem dX1_there_40 : decode cX1_there 40 = .ok (.ireturn, 1) := by decide +kernel
set_option maxRecDepth 20000 in
theorem ggX1_deaf_X1_isRouter : GoodIn wsX1_deaf wsX1_isRouter := goodIn_r _ [5] (by decide +kernel) (by decide +kernel)
set_option maxRecDepth 20000 in
theorem gX1_deaf_X1_isRouter : GoodIn wsX1_deaf (va_wsS RX1 35 yX1_isRouter wsX1_isRouter) := goodIn_app (goodIn_of _ (by decide +kernel)) ggX1_deaf_X1_isRouter
theorem dX1_deaf_0 : decode cX1_deaf 0 = .ok (.iload_n 1, 1) := by decide +kernel
theorem dX1_deaf_1 : decode cX1_deaf 1 = .ok (.invokestatic 35, 3) := by decide +kernel
theorem dX1_deaf_4 : decode cX1_deaf 4 = .ok (.ifCond .ne 5, 3) := by decide +kernel
theorem dX1_deaf_7 : decode cX1_deaf 7 = .ok (.iconst 0, 1) := by decide +kernel
theorem dX1_deaf_8 : decode cX1_deaf 8 = .ok (.ireturn, 1) := by decide +kernel
theorem dX1_deaf_9 : decode cX1_deaf 9 = .ok (.aload_n 0, 1) := by decide +kernel
theorem dX1_deaf_10 : decode cX1_deaf 10 = .ok (.getfield 13, 3) := by decide +kernel
theorem dX1_deaf_13 : decode cX1_deaf 13 = .ok (.iload_n 1, 1) := by decide +kernel
theorem dX1_deaf_14 : decode cX1_deaf 14 = .ok (.baload, 1) := by decide +kernel
theorem dX1_deaf_15 : decode cX1_deaf 15 = .ok (.istore_n 3, 1) := by decide +kernel
theorem dX1_deaf_16 : decode cX1_deaf 16 = .ok (.aload_n 0, 1) := by decide +kernel
theorem dX1_deaf_17 : decode cX1_deaf 17 = .ok (.getfield 13, 3) := by decide +kernel
theorem dX1_deaf_20 : decode cX1_deaf 20 = .ok (.iload_n 1, 1) := by decide +kernel
theorem dX1_deaf_21 : decode cX1_deaf 21 = .ok (.iload_n 2, 1) := by decide +kernel
theorem dX1_deaf_22 : decode cX1_deaf 22 = .ok (.bastore, 1) := by decide +kernel
theorem dX1_deaf_23 : decode cX1_deaf 23 = .ok (.iload_n 3, 1) := by decide +kernel
theorem dX1_deaf_24 : decode cX1_deaf 24 = .ok (.ireturn, 1) := by decide +kernel
theorem dX1_own_0 : decode cX1_own 0 = .ok (.aload_n 0, 1) := by decide +kernel
theorem dX1_own_1 : decode cX1_own 1 = .ok (.getfield 19, 3) := by decide +kernel
theorem dX1_own_4 : decode cX1_own 4 = .ok (.bipush 16, 2) := by decide +kernel
theorem dX1_own_6 : decode cX1_own 6 = .ok (.iload_n 1, 1) := by decide +kernel
theorem dX1_own_7 : decode cX1_own 7 = .ok (.imul, 1) := by decide +kernel
theorem dX1_own_8 : decode cX1_own 8 = .ok (.iload_n 2, 1) := by decide +kernel
theorem dX1_own_9 : decode cX1_own 9 = .ok (.iadd, 1) := by decide +kernel
theorem dX1_own_10 : decode cX1_own 10 = .ok (.baload, 1) := by decide +kernel
theorem dX1_own_11 : decode cX1_own 11 = .ok (.ifCond .eq 7, 3) := by decide +kernel
theorem dX1_own_14 : decode cX1_own 14 = .ok (.iconst 0, 1) := by decide +kernel
theorem dX1_own_15 : decode cX1_own 15 = .ok (.goto 5, 3) := by decide +kernel
theorem dX1_own_18 : decode cX1_own 18 = .ok (.ldc 48, 2) := by decide +kernel
theorem dX1_own_20 : decode cX1_own 20 = .ok (.bipush 100, 2) := by decide +kernel
theorem dX1_own_22 : decode cX1_own 22 = .ok (.aload_n 0, 1) := by decide +kernel
theorem dX1_own_23 : decode cX1_own 23 = .ok (.getfield 22, 3) := by decide +kernel
theorem dX1_own_26 : decode cX1_own 26 = .ok (.bipush 16, 2) := by decide +kernel
theorem dX1_own_28 : decode cX1_own 28 = .ok (.iload_n 1, 1) := by decide +kernel
theorem dX1_own_29 : decode cX1_own 29 = .ok (.imul, 1) := by decide +kernel
theorem dX1_own_30 : decode cX1_own 30 = .ok (.iload_n 2, 1) := by decide +kernel
theorem dX1_own_31 : decode cX1_own 31 = .ok (.iadd, 1) := by decide +kernel
theorem dX1_own_32 : decode cX1_own 32 = .ok (.iaload, 1) := by decide +kernel
theorem dX1_own_33 : decode cX1_own 33 = .ok (.imul, 1) := by decide +kernel
theorem dX1_own_34 : decode cX1_own 34 = .ok (.iadd, 1) := by decide +kernel
theorem dX1_own_35 : decode cX1_own 35 = .ok (.iload_n 1, 1) := by decide +kernel
theorem dX1_own_36 : decode cX1_own 36 = .ok (.iadd, 1) := by decide +kernel
theorem dX1_own_37 : decode cX1_own 37 = .ok (.ireturn, 1) := by decide +kernel
theorem dX1_isBetter_0 : decode cX1_isBetter 0 = .ok (.iload_n 0, 1) := by decide +kernel
theorem dX1_isBetter_1 : decode cX1_isBetter 1 = .ok (.bipush 100, 2) := by decide +kernel
theorem dX1_isBetter_3 : decode cX1_isBetter 3 = .ok (.idiv, 1) := by decide +kernel
theorem dX1_isBetter_4 : decode cX1_isBetter 4 = .ok (.iload_n 1, 1) := by decide +kernel
theorem dX1_isBetter_5 : decode cX1_isBetter 5 = .ok (.bipush 100, 2) := by decide +kernel
theorem dX1_isBetter_7 : decode cX1_isBetter 7 = .ok (.idiv, 1) := by decide +kernel
theorem dX1_isBetter_8 : decode cX1_isBetter 8 = .ok (.if_icmp .lt 25, 3) := by decide +kernel
theorem dX1_isBetter_11 : decode cX1_isBetter 11 = .ok (.iload_n 0, 1) := by decide +kernel
theorem dX1_isBetter_12 : decode cX1_isBetter 12 = .ok (.bipush 100, 2) := by decide +kernel
theorem dX1_isBetter_14 : decode cX1_isBetter 14 = .ok (.idiv, 1) := by decide +kernel
theorem dX1_isBetter_15 : decode cX1_isBetter 15 = .ok (.iload_n 1, 1) := by decide +kernel
theorem dX1_isBetter_16 : decode cX1_isBetter 16 = .ok (.bipush 100, 2) := by decide +kernel
theorem dX1_isBetter_18 : decode cX1_isBetter 18 = .ok (.idiv, 1) := by decide +kernel
theorem dX1_isBetter_19 : decode cX1_isBetter 19 = .ok (.if_icmp .ne 18, 3) := by decide +kernel
theorem dX1_isBetter_22 : decode cX1_isBetter 22 = .ok (.iload_n 0, 1) := by decide +kernel
theorem dX1_isBetter_23 : decode cX1_isBetter 23 = .ok (.bipush 100, 2) := by decide +kernel
theorem dX1_isBetter_25 : decode cX1_isBetter 25 = .ok (.irem, 1) := by decide +kernel
theorem dX1_isBetter_26 : decode cX1_isBetter 26 = .ok (.iload_n 1, 1) := by decide +kernel
theorem dX1_isBetter_27 : decode cX1_isBetter 27 = .ok (.bipush 100, 2) := by decide +kernel
theorem dX1_isBetter_29 : decode cX1_isBetter 29 = .ok (.irem, 1) := by decide +kernel
theorem dX1_isBetter_30 : decode cX1_isBetter 30 = .ok (.if_icmp .le 7, 3) := by decide +kernel
theorem dX1_isBetter_33 : decode cX1_isBetter 33 = .ok (.iconst 1, 1) := by decide +kernel
theorem dX1_isBetter_34 : decode cX1_isBetter 34 = .ok (.goto 4, 3) := by decide +kernel
theorem dX1_isBetter_37 : decode cX1_isBetter 37 = .ok (.iconst 0, 1) := by decide +kernel
theorem dX1_isBetter_38 : decode cX1_isBetter 38 = .ok (.ireturn, 1) := by decide +kernel
theorem dX1_keeps_0 : decode cX1_keeps 0 = .ok (.aload_n 0, 1) := by decide +kernel
theorem dX1_keeps_1 : decode cX1_keeps 1 = .ok (.getfield 26, 3) := by decide +kernel
theorem dX1_keeps_4 : decode cX1_keeps 4 = .ok (.bipush 16, 2) := by decide +kernel
theorem dX1_keeps_6 : decode cX1_keeps 6 = .ok (.iload_n 1, 1) := by decide +kernel
theorem dX1_keeps_7 : decode cX1_keeps 7 = .ok (.imul, 1) := by decide +kernel
theorem dX1_keeps_8 : decode cX1_keeps 8 = .ok (.iload_n 2, 1) := by decide +kernel
theorem dX1_keeps_9 : decode cX1_keeps 9 = .ok (.iadd, 1) := by decide +kernel
theorem dX1_keeps_10 : decode cX1_keeps 10 = .ok (.iaload, 1) := by decide +kernel
theorem dX1_keeps_11 : decode cX1_keeps 11 = .ok (.istore_n 3, 1) := by decide +kernel
theorem dX1_keeps_12 : decode cX1_keeps 12 = .ok (.iload_n 3, 1) := by decide +kernel
theorem dX1_keeps_13 : decode cX1_keeps 13 = .ok (.iconst (-1), 1) := by decide +kernel
theorem dX1_keeps_14 : decode cX1_keeps 14 = .ok (.if_icmp .eq 37, 3) := by decide +kernel
theorem dX1_keeps_17 : decode cX1_keeps 17 = .ok (.aload_n 0, 1) := by decide +kernel
theorem dX1_keeps_18 : decode cX1_keeps 18 = .ok (.getfield 39, 3) := by decide +kernel
theorem dX1_keeps_21 : decode cX1_keeps 21 = .ok (.aload_n 0, 1) := by decide +kernel
theorem dX1_keeps_22 : decode cX1_keeps 22 = .ok (.getfield 29, 3) := by decide +kernel
theorem dX1_keeps_25 : decode cX1_keeps 25 = .ok (.bipush 16, 2) := by decide +kernel
theorem dX1_keeps_27 : decode cX1_keeps 27 = .ok (.iload_n 1, 1) := by decide +kernel
theorem dX1_keeps_28 : decode cX1_keeps 28 = .ok (.imul, 1) := by decide +kernel
theorem dX1_keeps_29 : decode cX1_keeps 29 = .ok (.iload_n 2, 1) := by decide +kernel
theorem dX1_keeps_30 : decode cX1_keeps 30 = .ok (.iadd, 1) := by decide +kernel
theorem dX1_keeps_31 : decode cX1_keeps 31 = .ok (.iaload, 1) := by decide +kernel
theorem dX1_keeps_32 : decode cX1_keeps 32 = .ok (.if_icmp .ge 19, 3) := by decide +kernel
theorem dX1_keeps_35 : decode cX1_keeps 35 = .ok (.aload_n 0, 1) := by decide +kernel
theorem dX1_keeps_36 : decode cX1_keeps 36 = .ok (.getfield 7, 3) := by decide +kernel
theorem dX1_keeps_39 : decode cX1_keeps 39 = .ok (.iload_n 3, 1) := by decide +kernel
theorem dX1_keeps_40 : decode cX1_keeps 40 = .ok (.bipush 100, 2) := by decide +kernel
theorem dX1_keeps_42 : decode cX1_keeps 42 = .ok (.irem, 1) := by decide +kernel
theorem dX1_keeps_43 : decode cX1_keeps 43 = .ok (.baload, 1) := by decide +kernel
theorem dX1_keeps_44 : decode cX1_keeps 44 = .ok (.ifCond .ne 7, 3) := by decide +kernel
theorem dX1_keeps_47 : decode cX1_keeps 47 = .ok (.iload_n 3, 1) := by decide +kernel
theorem dX1_keeps_48 : decode cX1_keeps 48 = .ok (.goto 4, 3) := by decide +kernel
theorem dX1_keeps_51 : decode cX1_keeps 51 = .ok (.iconst (-1), 1) := by decide +kernel
theorem dX1_keeps_52 : decode cX1_keeps 52 = .ok (.ireturn, 1) := by decide +kernel
set_option maxRecDepth 20000 in
theorem ggX1_isLost_X1_keeps : GoodIn wsX1_isLost wsX1_keeps := goodIn_r _ [5, 6, 7, 8, 9, 20, 21, 22, 23, 24, 25, 26, 27, 28, 29, 30] (by decide +kernel) (by decide +kernel)
set_option maxRecDepth 20000 in
theorem gX1_isLost_X1_keeps : GoodIn wsX1_isLost (wsV RX1 49 RX1 yX1_keeps wsX1_keeps) := goodIn_app (goodIn_of _ (by decide +kernel)) ggX1_isLost_X1_keeps
set_option maxRecDepth 20000 in
theorem ggX1_isLost_X1_own : GoodIn wsX1_isLost wsX1_own := goodIn_r _ [13, 14, 15, 16, 20, 21, 22, 23, 24, 25, 26, 27, 28, 29, 30] (by decide +kernel) (by decide +kernel)
set_option maxRecDepth 20000 in
theorem gX1_isLost_X1_own : GoodIn wsX1_isLost (wsV RX1 53 RX1 yX1_own wsX1_own) := goodIn_app (goodIn_of _ (by decide +kernel)) ggX1_isLost_X1_own
set_option maxRecDepth 20000 in
theorem ggX1_isLost_X1_isBetter : GoodIn wsX1_isLost wsX1_isBetter := goodIn_r _ [19] (by decide +kernel) (by decide +kernel)
set_option maxRecDepth 20000 in
theorem gX1_isLost_X1_isBetter : GoodIn wsX1_isLost (va_wsS RX1 56 yX1_isBetter wsX1_isBetter) := goodIn_app (goodIn_of _ (by decide +kernel)) ggX1_isLost_X1_isBetter
theorem dX1_isLost_0 : decode cX1_isLost 0 = .ok (.aload_n 0, 1) := by decide +kernel
theorem dX1_isLost_1 : decode cX1_isLost 1 = .ok (.iload_n 1, 1) := by decide +kernel
theorem dX1_isLost_2 : decode cX1_isLost 2 = .ok (.iload_n 2, 1) := by decide +kernel
theorem dX1_isLost_3 : decode cX1_isLost 3 = .ok (.invokevirtual 49, 3) := by decide +kernel
theorem dX1_isLost_6 : decode cX1_isLost 6 = .ok (.istore_n 3, 1) := by decide +kernel
theorem dX1_isLost_7 : decode cX1_isLost 7 = .ok (.iload_n 3, 1) := by decide +kernel
theorem dX1_isLost_8 : decode cX1_isLost 8 = .ok (.iconst (-1), 1) := by decide +kernel
theorem dX1_isLost_9 : decode cX1_isLost 9 = .ok (.if_icmp .eq 20, 3) := by decide +kernel
theorem dX1_isLost_12 : decode cX1_isLost 12 = .ok (.iload_n 3, 1) := by decide +kernel
theorem dX1_isLost_13 : decode cX1_isLost 13 = .ok (.aload_n 0, 1) := by decide +kernel
theorem dX1_isLost_14 : decode cX1_isLost 14 = .ok (.iload_n 1, 1) := by decide +kernel
theorem dX1_isLost_15 : decode cX1_isLost 15 = .ok (.iload_n 2, 1) := by decide +kernel
theorem dX1_isLost_16 : decode cX1_isLost 16 = .ok (.invokevirtual 53, 3) := by decide +kernel
theorem dX1_isLost_19 : decode cX1_isLost 19 = .ok (.invokestatic 56, 3) := by decide +kernel
theorem dX1_isLost_22 : decode cX1_isLost 22 = .ok (.ifCond .eq 7, 3) := by decide +kernel
theorem dX1_isLost_25 : decode cX1_isLost 25 = .ok (.iconst 1, 1) := by decide +kernel
theorem dX1_isLost_26 : decode cX1_isLost 26 = .ok (.goto 4, 3) := by decide +kernel
theorem dX1_isLost_29 : decode cX1_isLost 29 = .ok (.iconst 0, 1) := by decide +kernel
theorem dX1_isLost_30 : decode cX1_isLost 30 = .ok (.ireturn, 1) := by decide +kernel
set_option maxRecDepth 20000 in
theorem ggX1_isSending_X1_isLost : GoodIn wsX1_isSending wsX1_isLost := goodIn_r _ [7, 8, 9, 10, 6, 11, 12, 13, 14, 1, 15, 16, 17, 18, 19, 20, 21, 22, 23, 24, 25, 26, 27, 28, 29, 30, 31, 32, 33, 34, 35] (by decide +kernel) (by decide +kernel)
set_option maxRecDepth 20000 in
theorem gX1_isSending_X1_isLost : GoodIn wsX1_isSending (wsV RX1 59 RX1 yX1_isLost wsX1_isLost) := goodIn_app (goodIn_of _ (by decide +kernel)) ggX1_isSending_X1_isLost
theorem dX1_isSending_0 : decode cX1_isSending 0 = .ok (.aload_n 0, 1) := by decide +kernel
theorem dX1_isSending_1 : decode cX1_isSending 1 = .ok (.getfield 7, 3) := by decide +kernel
theorem dX1_isSending_4 : decode cX1_isSending 4 = .ok (.iload_n 1, 1) := by decide +kernel
theorem dX1_isSending_5 : decode cX1_isSending 5 = .ok (.baload, 1) := by decide +kernel
theorem dX1_isSending_6 : decode cX1_isSending 6 = .ok (.ifCond .ne 30, 3) := by decide +kernel
theorem dX1_isSending_9 : decode cX1_isSending 9 = .ok (.aload_n 0, 1) := by decide +kernel
theorem dX1_isSending_10 : decode cX1_isSending 10 = .ok (.getfield 16, 3) := by decide +kernel
theorem dX1_isSending_13 : decode cX1_isSending 13 = .ok (.bipush 16, 2) := by decide +kernel
theorem dX1_isSending_15 : decode cX1_isSending 15 = .ok (.iload_n 1, 1) := by decide +kernel
theorem dX1_isSending_16 : decode cX1_isSending 16 = .ok (.imul, 1) := by decide +kernel
theorem dX1_isSending_17 : decode cX1_isSending 17 = .ok (.iload_n 2, 1) := by decide +kernel
theorem dX1_isSending_18 : decode cX1_isSending 18 = .ok (.iadd, 1) := by decide +kernel
theorem dX1_isSending_19 : decode cX1_isSending 19 = .ok (.baload, 1) := by decide +kernel
theorem dX1_isSending_20 : decode cX1_isSending 20 = .ok (.ifCond .eq 16, 3) := by decide +kernel
theorem dX1_isSending_23 : decode cX1_isSending 23 = .ok (.aload_n 0, 1) := by decide +kernel
theorem dX1_isSending_24 : decode cX1_isSending 24 = .ok (.iload_n 1, 1) := by decide +kernel
theorem dX1_isSending_25 : decode cX1_isSending 25 = .ok (.iload_n 2, 1) := by decide +kernel
theorem dX1_isSending_26 : decode cX1_isSending 26 = .ok (.invokevirtual 59, 3) := by decide +kernel
theorem dX1_isSending_29 : decode cX1_isSending 29 = .ok (.ifCond .ne 7, 3) := by decide +kernel
theorem dX1_isSending_32 : decode cX1_isSending 32 = .ok (.iconst 1, 1) := by decide +kernel
theorem dX1_isSending_33 : decode cX1_isSending 33 = .ok (.goto 4, 3) := by decide +kernel
theorem dX1_isSending_36 : decode cX1_isSending 36 = .ok (.iconst 0, 1) := by decide +kernel
theorem dX1_isSending_37 : decode cX1_isSending 37 = .ok (.ireturn, 1) := by decide +kernel
set_option maxRecDepth 20000 in
theorem ggX1_say_X1_own : GoodIn wsX1_say wsX1_own := goodIn_r _ [8, 9, 10, 11, 12, 13, 14, 15, 16, 17, 18, 19, 20, 21, 22] (by decide +kernel) (by decide +kernel)
set_option maxRecDepth 20000 in
theorem gX1_say_X1_own : GoodIn wsX1_say (wsV RX1 53 RX1 yX1_own wsX1_own) := goodIn_app (goodIn_of _ (by decide +kernel)) ggX1_say_X1_own
theorem dX1_say_0 : decode cX1_say 0 = .ok (.aload_n 0, 1) := by decide +kernel
theorem dX1_say_1 : decode cX1_say 1 = .ok (.getfield 62, 3) := by decide +kernel
theorem dX1_say_4 : decode cX1_say 4 = .ok (.sipush 1024, 3) := by decide +kernel
theorem dX1_say_7 : decode cX1_say 7 = .ok (.if_icmp .ne 4, 3) := by decide +kernel
theorem dX1_say_10 : decode cX1_say 10 = .ok (.return_, 1) := by decide +kernel
theorem dX1_say_11 : decode cX1_say 11 = .ok (.aload_n 0, 1) := by decide +kernel
theorem dX1_say_12 : decode cX1_say 12 = .ok (.getfield 32, 3) := by decide +kernel
theorem dX1_say_15 : decode cX1_say 15 = .ok (.aload_n 0, 1) := by decide +kernel
theorem dX1_say_16 : decode cX1_say 16 = .ok (.getfield 62, 3) := by decide +kernel
theorem dX1_say_19 : decode cX1_say 19 = .ok (.aload_n 0, 1) := by decide +kernel
theorem dX1_say_20 : decode cX1_say 20 = .ok (.iload_n 1, 1) := by decide +kernel
theorem dX1_say_21 : decode cX1_say 21 = .ok (.iload_n 2, 1) := by decide +kernel
theorem dX1_say_22 : decode cX1_say 22 = .ok (.invokevirtual 53, 3) := by decide +kernel
theorem dX1_say_25 : decode cX1_say 25 = .ok (.iastore, 1) := by decide +kernel
theorem dX1_say_26 : decode cX1_say 26 = .ok (.aload_n 0, 1) := by decide +kernel
theorem dX1_say_27 : decode cX1_say 27 = .ok (.dup, 1) := by decide +kernel
theorem dX1_say_28 : decode cX1_say 28 = .ok (.getfield 62, 3) := by decide +kernel
theorem dX1_say_31 : decode cX1_say 31 = .ok (.iconst 1, 1) := by decide +kernel
theorem dX1_say_32 : decode cX1_say 32 = .ok (.iadd, 1) := by decide +kernel
theorem dX1_say_33 : decode cX1_say 33 = .ok (.putfield 62, 3) := by decide +kernel
theorem dX1_say_36 : decode cX1_say 36 = .ok (.aload_n 0, 1) := by decide +kernel
theorem dX1_say_37 : decode cX1_say 37 = .ok (.dup, 1) := by decide +kernel
theorem dX1_say_38 : decode cX1_say 38 = .ok (.getfield 65, 3) := by decide +kernel
theorem dX1_say_41 : decode cX1_say 41 = .ok (.iconst 1, 1) := by decide +kernel
theorem dX1_say_42 : decode cX1_say 42 = .ok (.iadd, 1) := by decide +kernel
theorem dX1_say_43 : decode cX1_say 43 = .ok (.putfield 65, 3) := by decide +kernel
theorem dX1_say_46 : decode cX1_say 46 = .ok (.return_, 1) := by decide +kernel
set_option maxRecDepth 20000 in
theorem ggX1_hear_X1_keeps : GoodIn wsX1_hear wsX1_keeps := goodIn_r _ [8, 1, 3, 2, 9, 36, 37, 38, 39, 40, 41, 42, 43, 44, 45, 46] (by decide +kernel) (by decide +kernel)
set_option maxRecDepth 20000 in
theorem gX1_hear_X1_keeps : GoodIn wsX1_hear (wsV RX1 49 RX1 yX1_keeps wsX1_keeps) := goodIn_app (goodIn_of _ (by decide +kernel)) ggX1_hear_X1_keeps
set_option maxRecDepth 20000 in
theorem ggX1_hear_X1_isBetter : GoodIn wsX1_hear wsX1_isBetter := goodIn_r _ [12] (by decide +kernel) (by decide +kernel)
set_option maxRecDepth 20000 in
theorem gX1_hear_X1_isBetter : GoodIn wsX1_hear (va_wsS RX1 56 yX1_isBetter wsX1_isBetter) := goodIn_app (goodIn_of _ (by decide +kernel)) ggX1_hear_X1_isBetter
set_option maxRecDepth 20000 in
theorem ggX1_hear_X1_isSending : GoodIn wsX1_hear wsX1_isSending := goodIn_r _ [16, 9, 17, 18, 19, 20, 7, 21, 4, 5, 6, 8, 1, 3, 2, 22, 23, 24, 25, 26, 27, 28, 10, 11, 12, 36, 37, 38, 39, 40, 41, 42, 43, 44, 45, 46] (by decide +kernel) (by decide +kernel)
set_option maxRecDepth 20000 in
theorem gX1_hear_X1_isSending : GoodIn wsX1_hear (wsV RX1 68 RX1 yX1_isSending wsX1_isSending) := goodIn_app (goodIn_of _ (by decide +kernel)) ggX1_hear_X1_isSending
set_option maxRecDepth 20000 in
theorem ggX1_hear_X1_own : GoodIn wsX1_hear wsX1_own := goodIn_r _ [25, 26, 27, 28, 36, 37, 38, 39, 40, 41, 42, 43, 44, 45, 46] (by decide +kernel) (by decide +kernel)
set_option maxRecDepth 20000 in
theorem gX1_hear_X1_own : GoodIn wsX1_hear (wsV RX1 53 RX1 yX1_own wsX1_own) := goodIn_app (goodIn_of _ (by decide +kernel)) ggX1_hear_X1_own
set_option maxRecDepth 20000 in
theorem ggX1_hear_X1_say : GoodIn wsX1_hear wsX1_say := goodIn_r _ [32, 33, 34, 35, 22, 23, 24, 7, 25, 26, 27, 28, 36, 37, 38, 39, 40, 41, 42, 43, 44, 45, 46] (by decide +kernel) (by decide +kernel)
set_option maxRecDepth 20000 in
theorem gX1_hear_X1_say : GoodIn wsX1_hear (wsV RX1 71 RX1 yX1_say wsX1_say) := goodIn_app (goodIn_of _ (by decide +kernel)) ggX1_hear_X1_say
theorem dX1_hear_0 : decode cX1_hear 0 = .ok (.aload_n 0, 1) := by decide +kernel
theorem dX1_hear_1 : decode cX1_hear 1 = .ok (.iload_n 1, 1) := by decide +kernel
theorem dX1_hear_2 : decode cX1_hear 2 = .ok (.iload_n 2, 1) := by decide +kernel
theorem dX1_hear_3 : decode cX1_hear 3 = .ok (.invokevirtual 49, 3) := by decide +kernel
theorem dX1_hear_6 : decode cX1_hear 6 = .ok (.istore 4, 2) := by decide +kernel
theorem dX1_hear_8 : decode cX1_hear 8 = .ok (.iload 4, 2) := by decide +kernel
theorem dX1_hear_10 : decode cX1_hear 10 = .ok (.iconst (-1), 1) := by decide +kernel
theorem dX1_hear_11 : decode cX1_hear 11 = .ok (.if_icmp .eq 24, 3) := by decide +kernel
theorem dX1_hear_14 : decode cX1_hear 14 = .ok (.iload_n 3, 1) := by decide +kernel
theorem dX1_hear_15 : decode cX1_hear 15 = .ok (.iload 4, 2) := by decide +kernel
theorem dX1_hear_17 : decode cX1_hear 17 = .ok (.invokestatic 56, 3) := by decide +kernel
theorem dX1_hear_20 : decode cX1_hear 20 = .ok (.ifCond .ne 15, 3) := by decide +kernel
theorem dX1_hear_23 : decode cX1_hear 23 = .ok (.iload 4, 2) := by decide +kernel
theorem dX1_hear_25 : decode cX1_hear 25 = .ok (.bipush 100, 2) := by decide +kernel
theorem dX1_hear_27 : decode cX1_hear 27 = .ok (.irem, 1) := by decide +kernel
theorem dX1_hear_28 : decode cX1_hear 28 = .ok (.iload_n 3, 1) := by decide +kernel
theorem dX1_hear_29 : decode cX1_hear 29 = .ok (.bipush 100, 2) := by decide +kernel
theorem dX1_hear_31 : decode cX1_hear 31 = .ok (.irem, 1) := by decide +kernel
theorem dX1_hear_32 : decode cX1_hear 32 = .ok (.if_icmp .ne 33, 3) := by decide +kernel
theorem dX1_hear_35 : decode cX1_hear 35 = .ok (.aload_n 0, 1) := by decide +kernel
theorem dX1_hear_36 : decode cX1_hear 36 = .ok (.getfield 26, 3) := by decide +kernel
theorem dX1_hear_39 : decode cX1_hear 39 = .ok (.bipush 16, 2) := by decide +kernel
theorem dX1_hear_41 : decode cX1_hear 41 = .ok (.iload_n 1, 1) := by decide +kernel
theorem dX1_hear_42 : decode cX1_hear 42 = .ok (.imul, 1) := by decide +kernel
theorem dX1_hear_43 : decode cX1_hear 43 = .ok (.iload_n 2, 1) := by decide +kernel
theorem dX1_hear_44 : decode cX1_hear 44 = .ok (.iadd, 1) := by decide +kernel
theorem dX1_hear_45 : decode cX1_hear 45 = .ok (.iload_n 3, 1) := by decide +kernel
theorem dX1_hear_46 : decode cX1_hear 46 = .ok (.iastore, 1) := by decide +kernel
theorem dX1_hear_47 : decode cX1_hear 47 = .ok (.aload_n 0, 1) := by decide +kernel
theorem dX1_hear_48 : decode cX1_hear 48 = .ok (.getfield 29, 3) := by decide +kernel
theorem dX1_hear_51 : decode cX1_hear 51 = .ok (.bipush 16, 2) := by decide +kernel
theorem dX1_hear_53 : decode cX1_hear 53 = .ok (.iload_n 1, 1) := by decide +kernel
theorem dX1_hear_54 : decode cX1_hear 54 = .ok (.imul, 1) := by decide +kernel
theorem dX1_hear_55 : decode cX1_hear 55 = .ok (.iload_n 2, 1) := by decide +kernel
theorem dX1_hear_56 : decode cX1_hear 56 = .ok (.iadd, 1) := by decide +kernel
theorem dX1_hear_57 : decode cX1_hear 57 = .ok (.aload_n 0, 1) := by decide +kernel
theorem dX1_hear_58 : decode cX1_hear 58 = .ok (.getfield 39, 3) := by decide +kernel
theorem dX1_hear_61 : decode cX1_hear 61 = .ok (.bipush 60, 2) := by decide +kernel
theorem dX1_hear_63 : decode cX1_hear 63 = .ok (.iadd, 1) := by decide +kernel
theorem dX1_hear_64 : decode cX1_hear 64 = .ok (.iastore, 1) := by decide +kernel
theorem dX1_hear_65 : decode cX1_hear 65 = .ok (.aload_n 0, 1) := by decide +kernel
theorem dX1_hear_66 : decode cX1_hear 66 = .ok (.iload_n 1, 1) := by decide +kernel
theorem dX1_hear_67 : decode cX1_hear 67 = .ok (.iload_n 2, 1) := by decide +kernel
theorem dX1_hear_68 : decode cX1_hear 68 = .ok (.invokevirtual 68, 3) := by decide +kernel
theorem dX1_hear_71 : decode cX1_hear 71 = .ok (.ifCond .eq 22, 3) := by decide +kernel
theorem dX1_hear_74 : decode cX1_hear 74 = .ok (.aload_n 0, 1) := by decide +kernel
theorem dX1_hear_75 : decode cX1_hear 75 = .ok (.iload_n 1, 1) := by decide +kernel
theorem dX1_hear_76 : decode cX1_hear 76 = .ok (.iload_n 2, 1) := by decide +kernel
theorem dX1_hear_77 : decode cX1_hear 77 = .ok (.invokevirtual 53, 3) := by decide +kernel
theorem dX1_hear_80 : decode cX1_hear 80 = .ok (.iload_n 3, 1) := by decide +kernel
theorem dX1_hear_81 : decode cX1_hear 81 = .ok (.invokestatic 56, 3) := by decide +kernel
theorem dX1_hear_84 : decode cX1_hear 84 = .ok (.ifCond .eq 9, 3) := by decide +kernel
theorem dX1_hear_87 : decode cX1_hear 87 = .ok (.aload_n 0, 1) := by decide +kernel
theorem dX1_hear_88 : decode cX1_hear 88 = .ok (.iload_n 1, 1) := by decide +kernel
theorem dX1_hear_89 : decode cX1_hear 89 = .ok (.iload_n 2, 1) := by decide +kernel
theorem dX1_hear_90 : decode cX1_hear 90 = .ok (.invokevirtual 71, 3) := by decide +kernel
theorem dX1_hear_93 : decode cX1_hear 93 = .ok (.return_, 1) := by decide +kernel
set_option maxRecDepth 20000 in
theorem ggX1_data_X1_isPair : GoodIn wsX1_data wsX1_isPair := goodIn_r _ [8, 9, 10, 7, 11] (by decide +kernel) (by decide +kernel)
set_option maxRecDepth 20000 in
theorem gX1_data_X1_isPair : GoodIn wsX1_data (va_wsS RX1 44 yX1_isPair wsX1_isPair) := goodIn_app (goodIn_of _ (by decide +kernel)) ggX1_data_X1_isPair
set_option maxRecDepth 20000 in
theorem ggX1_data_X1_isSending : GoodIn wsX1_data wsX1_isSending := goodIn_r _ [15, 1, 16, 17, 18, 19, 7, 20, 21, 22, 23, 24, 25, 26, 27, 28, 29, 30, 31, 32, 33, 34, 35, 36, 37, 47, 48, 49, 50, 51, 52, 53, 54, 55, 56, 57] (by decide +kernel) (by decide +kernel)
set_option maxRecDepth 20000 in
theorem gX1_data_X1_isSending : GoodIn wsX1_data (wsV RX1 68 RX1 yX1_isSending wsX1_isSending) := goodIn_app (goodIn_of _ (by decide +kernel)) ggX1_data_X1_isSending
set_option maxRecDepth 20000 in
theorem ggX1_data_X1_say : GoodIn wsX1_data wsX1_say := goodIn_r _ [41, 2, 4, 42, 28, 29, 30, 7, 31, 32, 33, 34, 47, 48, 49, 50, 51, 52, 53, 54, 55, 56, 57] (by decide +kernel) (by decide +kernel)
set_option maxRecDepth 20000 in
theorem gX1_data_X1_say : GoodIn wsX1_data (wsV RX1 71 RX1 yX1_say wsX1_say) := goodIn_app (goodIn_of _ (by decide +kernel)) ggX1_data_X1_say
set_option maxRecDepth 20000 in
theorem ggX1_data_X1_hear : GoodIn wsX1_data wsX1_hear := goodIn_r _ [46, 25, 27, 26, 21, 22, 23, 7, 24, 1, 35, 36, 37, 12, 13, 14, 15, 16, 17, 18, 19, 20, 28, 29, 30, 31, 32, 33, 34, 38, 39, 40, 41, 2, 4, 42, 47, 48, 49, 50, 51, 52, 53, 54, 55, 56, 57] (by decide +kernel) (by decide +kernel)
set_option maxRecDepth 20000 in
theorem gX1_data_X1_hear : GoodIn wsX1_data (wsV RX1 75 RX1 yX1_hear wsX1_hear) := goodIn_app (goodIn_of _ (by decide +kernel)) ggX1_data_X1_hear
theorem dX1_data_0 : decode cX1_data 0 = .ok (.iload_n 1, 1) := by decide +kernel
theorem dX1_data_1 : decode cX1_data 1 = .ok (.iload_n 2, 1) := by decide +kernel
theorem dX1_data_2 : decode cX1_data 2 = .ok (.invokestatic 44, 3) := by decide +kernel
theorem dX1_data_5 : decode cX1_data 5 = .ok (.ifCond .eq 12, 3) := by decide +kernel
theorem dX1_data_8 : decode cX1_data 8 = .ok (.aload_n 0, 1) := by decide +kernel
theorem dX1_data_9 : decode cX1_data 9 = .ok (.getfield 7, 3) := by decide +kernel
theorem dX1_data_12 : decode cX1_data 12 = .ok (.iload_n 1, 1) := by decide +kernel
theorem dX1_data_13 : decode cX1_data 13 = .ok (.baload, 1) := by decide +kernel
theorem dX1_data_14 : decode cX1_data 14 = .ok (.ifCond .eq 5, 3) := by decide +kernel
theorem dX1_data_17 : decode cX1_data 17 = .ok (.iconst (-1), 1) := by decide +kernel
theorem dX1_data_18 : decode cX1_data 18 = .ok (.ireturn, 1) := by decide +kernel
theorem dX1_data_19 : decode cX1_data 19 = .ok (.aload_n 0, 1) := by decide +kernel
theorem dX1_data_20 : decode cX1_data 20 = .ok (.iconst 0, 1) := by decide +kernel
theorem dX1_data_21 : decode cX1_data 21 = .ok (.putfield 62, 3) := by decide +kernel
theorem dX1_data_24 : decode cX1_data 24 = .ok (.iconst 0, 1) := by decide +kernel
theorem dX1_data_25 : decode cX1_data 25 = .ok (.istore_n 3, 1) := by decide +kernel
theorem dX1_data_26 : decode cX1_data 26 = .ok (.iload_n 3, 1) := by decide +kernel
theorem dX1_data_27 : decode cX1_data 27 = .ok (.bipush 10, 2) := by decide +kernel
theorem dX1_data_29 : decode cX1_data 29 = .ok (.if_icmp .ge 38, 3) := by decide +kernel
theorem dX1_data_32 : decode cX1_data 32 = .ok (.iload_n 3, 1) := by decide +kernel
theorem dX1_data_33 : decode cX1_data 33 = .ok (.iload_n 1, 1) := by decide +kernel
theorem dX1_data_34 : decode cX1_data 34 = .ok (.if_icmp .eq 27, 3) := by decide +kernel
theorem dX1_data_37 : decode cX1_data 37 = .ok (.aload_n 0, 1) := by decide +kernel
theorem dX1_data_38 : decode cX1_data 38 = .ok (.getfield 13, 3) := by decide +kernel
theorem dX1_data_41 : decode cX1_data 41 = .ok (.iload_n 3, 1) := by decide +kernel
theorem dX1_data_42 : decode cX1_data 42 = .ok (.baload, 1) := by decide +kernel
theorem dX1_data_43 : decode cX1_data 43 = .ok (.ifCond .ne 18, 3) := by decide +kernel
theorem dX1_data_46 : decode cX1_data 46 = .ok (.aload_n 0, 1) := by decide +kernel
theorem dX1_data_47 : decode cX1_data 47 = .ok (.iload_n 3, 1) := by decide +kernel
theorem dX1_data_48 : decode cX1_data 48 = .ok (.iload_n 2, 1) := by decide +kernel
theorem dX1_data_49 : decode cX1_data 49 = .ok (.invokevirtual 68, 3) := by decide +kernel
theorem dX1_data_52 : decode cX1_data 52 = .ok (.ifCond .eq 9, 3) := by decide +kernel
theorem dX1_data_55 : decode cX1_data 55 = .ok (.aload_n 0, 1) := by decide +kernel
theorem dX1_data_56 : decode cX1_data 56 = .ok (.iload_n 3, 1) := by decide +kernel
theorem dX1_data_57 : decode cX1_data 57 = .ok (.iload_n 2, 1) := by decide +kernel
theorem dX1_data_58 : decode cX1_data 58 = .ok (.invokevirtual 71, 3) := by decide +kernel
theorem dX1_data_61 : decode cX1_data 61 = .ok (.iinc 3 1, 3) := by decide +kernel
theorem dX1_data_64 : decode cX1_data 64 = .ok (.goto (-38), 3) := by decide +kernel
theorem dX1_data_67 : decode cX1_data 67 = .ok (.iconst 0, 1) := by decide +kernel
theorem dX1_data_68 : decode cX1_data 68 = .ok (.istore_n 3, 1) := by decide +kernel
theorem dX1_data_69 : decode cX1_data 69 = .ok (.iload_n 3, 1) := by decide +kernel
theorem dX1_data_70 : decode cX1_data 70 = .ok (.aload_n 0, 1) := by decide +kernel
theorem dX1_data_71 : decode cX1_data 71 = .ok (.getfield 62, 3) := by decide +kernel
theorem dX1_data_74 : decode cX1_data 74 = .ok (.if_icmp .ge 72, 3) := by decide +kernel
theorem dX1_data_77 : decode cX1_data 77 = .ok (.iconst 0, 1) := by decide +kernel
theorem dX1_data_78 : decode cX1_data 78 = .ok (.istore 4, 2) := by decide +kernel
theorem dX1_data_80 : decode cX1_data 80 = .ok (.iload 4, 2) := by decide +kernel
theorem dX1_data_82 : decode cX1_data 82 = .ok (.bipush 10, 2) := by decide +kernel
theorem dX1_data_84 : decode cX1_data 84 = .ok (.if_icmp .ge 56, 3) := by decide +kernel
theorem dX1_data_87 : decode cX1_data 87 = .ok (.iload 4, 2) := by decide +kernel
theorem dX1_data_89 : decode cX1_data 89 = .ok (.aload_n 0, 1) := by decide +kernel
theorem dX1_data_90 : decode cX1_data 90 = .ok (.getfield 32, 3) := by decide +kernel
theorem dX1_data_93 : decode cX1_data 93 = .ok (.iload_n 3, 1) := by decide +kernel
theorem dX1_data_94 : decode cX1_data 94 = .ok (.iaload, 1) := by decide +kernel
theorem dX1_data_95 : decode cX1_data 95 = .ok (.bipush 100, 2) := by decide +kernel
theorem dX1_data_97 : decode cX1_data 97 = .ok (.irem, 1) := by decide +kernel
theorem dX1_data_98 : decode cX1_data 98 = .ok (.if_icmp .eq 36, 3) := by decide +kernel
theorem dX1_data_101 : decode cX1_data 101 = .ok (.aload_n 0, 1) := by decide +kernel
theorem dX1_data_102 : decode cX1_data 102 = .ok (.getfield 7, 3) := by decide +kernel
theorem dX1_data_105 : decode cX1_data 105 = .ok (.iload 4, 2) := by decide +kernel
theorem dX1_data_107 : decode cX1_data 107 = .ok (.baload, 1) := by decide +kernel
theorem dX1_data_108 : decode cX1_data 108 = .ok (.ifCond .ne 26, 3) := by decide +kernel
theorem dX1_data_111 : decode cX1_data 111 = .ok (.aload_n 0, 1) := by decide +kernel
theorem dX1_data_112 : decode cX1_data 112 = .ok (.getfield 13, 3) := by decide +kernel
theorem dX1_data_115 : decode cX1_data 115 = .ok (.iload 4, 2) := by decide +kernel
theorem dX1_data_117 : decode cX1_data 117 = .ok (.baload, 1) := by decide +kernel
theorem dX1_data_118 : decode cX1_data 118 = .ok (.ifCond .ne 16, 3) := by decide +kernel
theorem dX1_data_121 : decode cX1_data 121 = .ok (.aload_n 0, 1) := by decide +kernel
theorem dX1_data_122 : decode cX1_data 122 = .ok (.iload 4, 2) := by decide +kernel
theorem dX1_data_124 : decode cX1_data 124 = .ok (.iload_n 2, 1) := by decide +kernel
theorem dX1_data_125 : decode cX1_data 125 = .ok (.aload_n 0, 1) := by decide +kernel
theorem dX1_data_126 : decode cX1_data 126 = .ok (.getfield 32, 3) := by decide +kernel
theorem dX1_data_129 : decode cX1_data 129 = .ok (.iload_n 3, 1) := by decide +kernel
theorem dX1_data_130 : decode cX1_data 130 = .ok (.iaload, 1) := by decide +kernel
theorem dX1_data_131 : decode cX1_data 131 = .ok (.invokevirtual 75, 3) := by decide +kernel
theorem dX1_data_134 : decode cX1_data 134 = .ok (.iinc 4 1, 3) := by decide +kernel
theorem dX1_data_137 : decode cX1_data 137 = .ok (.goto (-57), 3) := by decide +kernel
theorem dX1_data_140 : decode cX1_data 140 = .ok (.iinc 3 1, 3) := by decide +kernel
theorem dX1_data_143 : decode cX1_data 143 = .ok (.goto (-74), 3) := by decide +kernel
theorem dX1_data_146 : decode cX1_data 146 = .ok (.aload_n 0, 1) := by decide +kernel
theorem dX1_data_147 : decode cX1_data 147 = .ok (.getfield 62, 3) := by decide +kernel
theorem dX1_data_150 : decode cX1_data 150 = .ok (.ireturn, 1) := by decide +kernel
theorem dX1_said_0 : decode cX1_said 0 = .ok (.iload_n 1, 1) := by decide +kernel
theorem dX1_said_1 : decode cX1_said 1 = .ok (.ifCond .lt 23, 3) := by decide +kernel
theorem dX1_said_4 : decode cX1_said 4 = .ok (.iload_n 1, 1) := by decide +kernel
theorem dX1_said_5 : decode cX1_said 5 = .ok (.aload_n 0, 1) := by decide +kernel
theorem dX1_said_6 : decode cX1_said 6 = .ok (.getfield 62, 3) := by decide +kernel
theorem dX1_said_9 : decode cX1_said 9 = .ok (.if_icmp .ge 15, 3) := by decide +kernel
theorem dX1_said_12 : decode cX1_said 12 = .ok (.aload_n 0, 1) := by decide +kernel
theorem dX1_said_13 : decode cX1_said 13 = .ok (.getfield 32, 3) := by decide +kernel
theorem dX1_said_16 : decode cX1_said 16 = .ok (.iload_n 1, 1) := by decide +kernel
theorem dX1_said_17 : decode cX1_said 17 = .ok (.iaload, 1) := by decide +kernel
theorem dX1_said_18 : decode cX1_said 18 = .ok (.bipush 100, 2) := by decide +kernel
theorem dX1_said_20 : decode cX1_said 20 = .ok (.irem, 1) := by decide +kernel
theorem dX1_said_21 : decode cX1_said 21 = .ok (.goto 4, 3) := by decide +kernel
theorem dX1_said_24 : decode cX1_said 24 = .ok (.iconst (-1), 1) := by decide +kernel
theorem dX1_said_25 : decode cX1_said 25 = .ok (.ireturn, 1) := by decide +kernel
set_option maxRecDepth 20000 in
theorem ggX1_claim_X1_isPair : GoodIn wsX1_claim wsX1_isPair := goodIn_r _ [4, 5, 6, 3, 7] (by decide +kernel) (by decide +kernel)
set_option maxRecDepth 20000 in
theorem gX1_claim_X1_isPair : GoodIn wsX1_claim (va_wsS RX1 44 yX1_isPair wsX1_isPair) := goodIn_app (goodIn_of _ (by decide +kernel)) ggX1_claim_X1_isPair
set_option maxRecDepth 20000 in
theorem ggX1_claim_X1_own : GoodIn wsX1_claim wsX1_own := goodIn_r _ [11, 12, 13, 14, 15, 16, 17, 18, 19, 20, 21, 22, 23, 24, 25] (by decide +kernel) (by decide +kernel)
set_option maxRecDepth 20000 in
theorem gX1_claim_X1_own : GoodIn wsX1_claim (wsV RX1 53 RX1 yX1_own wsX1_own) := goodIn_app (goodIn_of _ (by decide +kernel)) ggX1_claim_X1_own
theorem dX1_claim_0 : decode cX1_claim 0 = .ok (.iload_n 1, 1) := by decide +kernel
theorem dX1_claim_1 : decode cX1_claim 1 = .ok (.iload_n 2, 1) := by decide +kernel
theorem dX1_claim_2 : decode cX1_claim 2 = .ok (.invokestatic 44, 3) := by decide +kernel
theorem dX1_claim_5 : decode cX1_claim 5 = .ok (.ifCond .eq 12, 3) := by decide +kernel
theorem dX1_claim_8 : decode cX1_claim 8 = .ok (.aload_n 0, 1) := by decide +kernel
theorem dX1_claim_9 : decode cX1_claim 9 = .ok (.iload_n 1, 1) := by decide +kernel
theorem dX1_claim_10 : decode cX1_claim 10 = .ok (.iload_n 2, 1) := by decide +kernel
theorem dX1_claim_11 : decode cX1_claim 11 = .ok (.invokevirtual 53, 3) := by decide +kernel
theorem dX1_claim_14 : decode cX1_claim 14 = .ok (.goto 4, 3) := by decide +kernel
theorem dX1_claim_17 : decode cX1_claim 17 = .ok (.iconst (-1), 1) := by decide +kernel
theorem dX1_claim_18 : decode cX1_claim 18 = .ok (.ireturn, 1) := by decide +kernel
set_option maxRecDepth 20000 in
theorem ggX1_kept_X1_isPair : GoodIn wsX1_kept wsX1_isPair := goodIn_r _ [4, 5, 6, 3, 7] (by decide +kernel) (by decide +kernel)
set_option maxRecDepth 20000 in
theorem gX1_kept_X1_isPair : GoodIn wsX1_kept (va_wsS RX1 44 yX1_isPair wsX1_isPair) := goodIn_app (goodIn_of _ (by decide +kernel)) ggX1_kept_X1_isPair
set_option maxRecDepth 20000 in
theorem ggX1_kept_X1_keeps : GoodIn wsX1_kept wsX1_keeps := goodIn_r _ [11, 12, 13, 14, 15, 16, 17, 18, 19, 20, 21, 22, 23, 24, 25, 26] (by decide +kernel) (by decide +kernel)
set_option maxRecDepth 20000 in
theorem gX1_kept_X1_keeps : GoodIn wsX1_kept (wsV RX1 49 RX1 yX1_keeps wsX1_keeps) := goodIn_app (goodIn_of _ (by decide +kernel)) ggX1_kept_X1_keeps
theorem dX1_kept_0 : decode cX1_kept 0 = .ok (.iload_n 1, 1) := by decide +kernel
theorem dX1_kept_1 : decode cX1_kept 1 = .ok (.iload_n 2, 1) := by decide +kernel
theorem dX1_kept_2 : decode cX1_kept 2 = .ok (.invokestatic 44, 3) := by decide +kernel
theorem dX1_kept_5 : decode cX1_kept 5 = .ok (.ifCond .eq 12, 3) := by decide +kernel
theorem dX1_kept_8 : decode cX1_kept 8 = .ok (.aload_n 0, 1) := by decide +kernel
theorem dX1_kept_9 : decode cX1_kept 9 = .ok (.iload_n 1, 1) := by decide +kernel
theorem dX1_kept_10 : decode cX1_kept 10 = .ok (.iload_n 2, 1) := by decide +kernel
theorem dX1_kept_11 : decode cX1_kept 11 = .ok (.invokevirtual 49, 3) := by decide +kernel
theorem dX1_kept_14 : decode cX1_kept 14 = .ok (.goto 4, 3) := by decide +kernel
theorem dX1_kept_17 : decode cX1_kept 17 = .ok (.iconst (-1), 1) := by decide +kernel
theorem dX1_kept_18 : decode cX1_kept 18 = .ok (.ireturn, 1) := by decide +kernel
set_option maxRecDepth 20000 in
theorem ggX1_lost_X1_isPair : GoodIn wsX1_lost wsX1_isPair := goodIn_r _ [4, 5, 6, 3, 7] (by decide +kernel) (by decide +kernel)
set_option maxRecDepth 20000 in
theorem gX1_lost_X1_isPair : GoodIn wsX1_lost (va_wsS RX1 44 yX1_isPair wsX1_isPair) := goodIn_app (goodIn_of _ (by decide +kernel)) ggX1_lost_X1_isPair
set_option maxRecDepth 20000 in
theorem ggX1_lost_X1_isLost : GoodIn wsX1_lost wsX1_isLost := goodIn_r _ [11, 12, 13, 14, 3, 15, 16, 17, 18, 19, 20, 21, 22, 23, 24, 25, 26, 27, 28, 29, 30, 31, 32, 33, 34, 35, 36, 37, 38, 39, 40] (by decide +kernel) (by decide +kernel)
set_option maxRecDepth 20000 in
theorem gX1_lost_X1_isLost : GoodIn wsX1_lost (wsV RX1 59 RX1 yX1_isLost wsX1_isLost) := goodIn_app (goodIn_of _ (by decide +kernel)) ggX1_lost_X1_isLost
theorem dX1_lost_0 : decode cX1_lost 0 = .ok (.iload_n 1, 1) := by decide +kernel
theorem dX1_lost_1 : decode cX1_lost 1 = .ok (.iload_n 2, 1) := by decide +kernel
theorem dX1_lost_2 : decode cX1_lost 2 = .ok (.invokestatic 44, 3) := by decide +kernel
theorem dX1_lost_5 : decode cX1_lost 5 = .ok (.ifCond .eq 16, 3) := by decide +kernel
theorem dX1_lost_8 : decode cX1_lost 8 = .ok (.aload_n 0, 1) := by decide +kernel
theorem dX1_lost_9 : decode cX1_lost 9 = .ok (.iload_n 1, 1) := by decide +kernel
theorem dX1_lost_10 : decode cX1_lost 10 = .ok (.iload_n 2, 1) := by decide +kernel
theorem dX1_lost_11 : decode cX1_lost 11 = .ok (.invokevirtual 59, 3) := by decide +kernel
theorem dX1_lost_14 : decode cX1_lost 14 = .ok (.ifCond .eq 7, 3) := by decide +kernel
theorem dX1_lost_17 : decode cX1_lost 17 = .ok (.iconst 1, 1) := by decide +kernel
theorem dX1_lost_18 : decode cX1_lost 18 = .ok (.goto 4, 3) := by decide +kernel
theorem dX1_lost_21 : decode cX1_lost 21 = .ok (.iconst 0, 1) := by decide +kernel
theorem dX1_lost_22 : decode cX1_lost 22 = .ok (.ireturn, 1) := by decide +kernel
set_option maxRecDepth 20000 in
theorem ggX1_sends_X1_isPair : GoodIn wsX1_sends wsX1_isPair := goodIn_r _ [4, 5, 6, 3, 7] (by decide +kernel) (by decide +kernel)
set_option maxRecDepth 20000 in
theorem gX1_sends_X1_isPair : GoodIn wsX1_sends (va_wsS RX1 44 yX1_isPair wsX1_isPair) := goodIn_app (goodIn_of _ (by decide +kernel)) ggX1_sends_X1_isPair
set_option maxRecDepth 20000 in
theorem ggX1_sends_X1_isSending : GoodIn wsX1_sends wsX1_isSending := goodIn_r _ [11, 12, 13, 14, 15, 16, 3, 17, 18, 19, 20, 21, 22, 23, 24, 25, 26, 27, 28, 29, 30, 31, 32, 33, 34, 35, 36, 37, 38, 39, 40, 41, 42, 43, 44, 45] (by decide +kernel) (by decide +kernel)
set_option maxRecDepth 20000 in
theorem gX1_sends_X1_isSending : GoodIn wsX1_sends (wsV RX1 68 RX1 yX1_isSending wsX1_isSending) := goodIn_app (goodIn_of _ (by decide +kernel)) ggX1_sends_X1_isSending
theorem dX1_sends_0 : decode cX1_sends 0 = .ok (.iconst 0, 1) := by decide +kernel
theorem dX1_sends_1 : decode cX1_sends 1 = .ok (.iload_n 1, 1) := by decide +kernel
theorem dX1_sends_2 : decode cX1_sends 2 = .ok (.invokestatic 44, 3) := by decide +kernel
theorem dX1_sends_5 : decode cX1_sends 5 = .ok (.ifCond .ne 5, 3) := by decide +kernel
theorem dX1_sends_8 : decode cX1_sends 8 = .ok (.iconst (-1), 1) := by decide +kernel
theorem dX1_sends_9 : decode cX1_sends 9 = .ok (.ireturn, 1) := by decide +kernel
theorem dX1_sends_10 : decode cX1_sends 10 = .ok (.iconst 0, 1) := by decide +kernel
theorem dX1_sends_11 : decode cX1_sends 11 = .ok (.istore_n 2, 1) := by decide +kernel
theorem dX1_sends_12 : decode cX1_sends 12 = .ok (.iconst 0, 1) := by decide +kernel
theorem dX1_sends_13 : decode cX1_sends 13 = .ok (.istore_n 3, 1) := by decide +kernel
theorem dX1_sends_14 : decode cX1_sends 14 = .ok (.iload_n 3, 1) := by decide +kernel
theorem dX1_sends_15 : decode cX1_sends 15 = .ok (.bipush 10, 2) := by decide +kernel
theorem dX1_sends_17 : decode cX1_sends 17 = .ok (.if_icmp .ge 24, 3) := by decide +kernel
theorem dX1_sends_20 : decode cX1_sends 20 = .ok (.aload_n 0, 1) := by decide +kernel
theorem dX1_sends_21 : decode cX1_sends 21 = .ok (.iload_n 3, 1) := by decide +kernel
theorem dX1_sends_22 : decode cX1_sends 22 = .ok (.iload_n 1, 1) := by decide +kernel
theorem dX1_sends_23 : decode cX1_sends 23 = .ok (.invokevirtual 68, 3) := by decide +kernel
theorem dX1_sends_26 : decode cX1_sends 26 = .ok (.ifCond .eq 9, 3) := by decide +kernel
theorem dX1_sends_29 : decode cX1_sends 29 = .ok (.iload_n 2, 1) := by decide +kernel
theorem dX1_sends_30 : decode cX1_sends 30 = .ok (.iconst 1, 1) := by decide +kernel
theorem dX1_sends_31 : decode cX1_sends 31 = .ok (.iload_n 3, 1) := by decide +kernel
theorem dX1_sends_32 : decode cX1_sends 32 = .ok (.ishl, 1) := by decide +kernel
theorem dX1_sends_33 : decode cX1_sends 33 = .ok (.ior, 1) := by decide +kernel
theorem dX1_sends_34 : decode cX1_sends 34 = .ok (.istore_n 2, 1) := by decide +kernel
theorem dX1_sends_35 : decode cX1_sends 35 = .ok (.iinc 3 1, 3) := by decide +kernel
theorem dX1_sends_38 : decode cX1_sends 38 = .ok (.goto (-24), 3) := by decide +kernel
theorem dX1_sends_41 : decode cX1_sends 41 = .ok (.iload_n 2, 1) := by decide +kernel
theorem dX1_sends_42 : decode cX1_sends 42 = .ok (.ireturn, 1) := by decide +kernel
theorem dX1_look_0 : decode cX1_look 0 = .ok (.iload_n 1, 1) := by decide +kernel
theorem dX1_look_1 : decode cX1_look 1 = .ok (.ifCond .ne 8, 3) := by decide +kernel
theorem dX1_look_4 : decode cX1_look 4 = .ok (.aload_n 0, 1) := by decide +kernel
theorem dX1_look_5 : decode cX1_look 5 = .ok (.getfield 39, 3) := by decide +kernel
theorem dX1_look_8 : decode cX1_look 8 = .ok (.ireturn, 1) := by decide +kernel
theorem dX1_look_9 : decode cX1_look 9 = .ok (.iload_n 1, 1) := by decide +kernel
theorem dX1_look_10 : decode cX1_look 10 = .ok (.iconst 3, 1) := by decide +kernel
theorem dX1_look_11 : decode cX1_look 11 = .ok (.if_icmp .ne 8, 3) := by decide +kernel
theorem dX1_look_14 : decode cX1_look 14 = .ok (.aload_n 0, 1) := by decide +kernel
theorem dX1_look_15 : decode cX1_look 15 = .ok (.getfield 65, 3) := by decide +kernel
theorem dX1_look_18 : decode cX1_look 18 = .ok (.ireturn, 1) := by decide +kernel
theorem dX1_look_19 : decode cX1_look 19 = .ok (.iload_n 1, 1) := by decide +kernel
theorem dX1_look_20 : decode cX1_look 20 = .ok (.iconst 1, 1) := by decide +kernel
theorem dX1_look_21 : decode cX1_look 21 = .ok (.if_icmp .eq 10, 3) := by decide +kernel
theorem dX1_look_24 : decode cX1_look 24 = .ok (.iload_n 1, 1) := by decide +kernel
theorem dX1_look_25 : decode cX1_look 25 = .ok (.iconst 2, 1) := by decide +kernel
theorem dX1_look_26 : decode cX1_look 26 = .ok (.if_icmp .eq 5, 3) := by decide +kernel
theorem dX1_look_29 : decode cX1_look 29 = .ok (.iconst (-1), 1) := by decide +kernel
theorem dX1_look_30 : decode cX1_look 30 = .ok (.ireturn, 1) := by decide +kernel
theorem dX1_look_31 : decode cX1_look 31 = .ok (.iconst 0, 1) := by decide +kernel
theorem dX1_look_32 : decode cX1_look 32 = .ok (.istore_n 2, 1) := by decide +kernel
theorem dX1_look_33 : decode cX1_look 33 = .ok (.iconst 0, 1) := by decide +kernel
theorem dX1_look_34 : decode cX1_look 34 = .ok (.istore_n 3, 1) := by decide +kernel
theorem dX1_look_35 : decode cX1_look 35 = .ok (.iload_n 3, 1) := by decide +kernel
theorem dX1_look_36 : decode cX1_look 36 = .ok (.bipush 10, 2) := by decide +kernel
theorem dX1_look_38 : decode cX1_look 38 = .ok (.if_icmp .ge 50, 3) := by decide +kernel
theorem dX1_look_41 : decode cX1_look 41 = .ok (.iload_n 1, 1) := by decide +kernel
theorem dX1_look_42 : decode cX1_look 42 = .ok (.iconst 1, 1) := by decide +kernel
theorem dX1_look_43 : decode cX1_look 43 = .ok (.if_icmp .ne 20, 3) := by decide +kernel
theorem dX1_look_46 : decode cX1_look 46 = .ok (.aload_n 0, 1) := by decide +kernel
theorem dX1_look_47 : decode cX1_look 47 = .ok (.getfield 7, 3) := by decide +kernel
theorem dX1_look_50 : decode cX1_look 50 = .ok (.iload_n 3, 1) := by decide +kernel
theorem dX1_look_51 : decode cX1_look 51 = .ok (.baload, 1) := by decide +kernel
theorem dX1_look_52 : decode cX1_look 52 = .ok (.ifCond .ne 7, 3) := by decide +kernel
theorem dX1_look_55 : decode cX1_look 55 = .ok (.iconst 1, 1) := by decide +kernel
theorem dX1_look_56 : decode cX1_look 56 = .ok (.goto 13, 3) := by decide +kernel
theorem dX1_look_59 : decode cX1_look 59 = .ok (.iconst 0, 1) := by decide +kernel
theorem dX1_look_60 : decode cX1_look 60 = .ok (.goto 9, 3) := by decide +kernel
theorem dX1_look_63 : decode cX1_look 63 = .ok (.aload_n 0, 1) := by decide +kernel
theorem dX1_look_64 : decode cX1_look 64 = .ok (.getfield 13, 3) := by decide +kernel
theorem dX1_look_67 : decode cX1_look 67 = .ok (.iload_n 3, 1) := by decide +kernel
theorem dX1_look_68 : decode cX1_look 68 = .ok (.baload, 1) := by decide +kernel
theorem dX1_look_69 : decode cX1_look 69 = .ok (.istore 4, 2) := by decide +kernel
theorem dX1_look_71 : decode cX1_look 71 = .ok (.iload 4, 2) := by decide +kernel
theorem dX1_look_73 : decode cX1_look 73 = .ok (.ifCond .eq 9, 3) := by decide +kernel
theorem dX1_look_76 : decode cX1_look 76 = .ok (.iload_n 2, 1) := by decide +kernel
theorem dX1_look_77 : decode cX1_look 77 = .ok (.iconst 1, 1) := by decide +kernel
theorem dX1_look_78 : decode cX1_look 78 = .ok (.iload_n 3, 1) := by decide +kernel
theorem dX1_look_79 : decode cX1_look 79 = .ok (.ishl, 1) := by decide +kernel
theorem dX1_look_80 : decode cX1_look 80 = .ok (.ior, 1) := by decide +kernel
theorem dX1_look_81 : decode cX1_look 81 = .ok (.istore_n 2, 1) := by decide +kernel
theorem dX1_look_82 : decode cX1_look 82 = .ok (.iinc 3 1, 3) := by decide +kernel
theorem dX1_look_85 : decode cX1_look 85 = .ok (.goto (-50), 3) := by decide +kernel
theorem dX1_look_88 : decode cX1_look 88 = .ok (.iload_n 2, 1) := by decide +kernel
theorem dX1_look_89 : decode cX1_look 89 = .ok (.ireturn, 1) := by decide +kernel
set_option maxRecDepth 20000 in
theorem ggL_law_X0_init : GoodIn wsL_law wsX0_init := goodIn_r _ [8, 9, 10, 11, 12, 13, 14, 15, 16, 17, 18, 19, 20, 21, 22, 23, 24, 2, 25, 26, 27, 28, 29, 228, 229, 230, 231, 232, 233, 234, 235, 236, 237] (by decide +kernel) (by decide +kernel)
set_option maxRecDepth 20000 in
theorem gL_law_X0_init : GoodIn wsL_law (wsX0_init) := ggL_law_X0_init
set_option maxRecDepth 20000 in
theorem ggL_law_X1_init : GoodIn wsL_law wsX1_init := goodIn_r _ [32, 33, 10, 11, 34, 35, 36, 37, 38, 16, 39, 40, 41, 42, 238, 239, 240, 241, 242, 243, 244, 245, 246, 247, 248] (by decide +kernel) (by decide +kernel)
set_option maxRecDepth 20000 in
theorem gL_law_X1_init : GoodIn wsL_law (wsX1_init) := ggL_law_X1_init
set_option maxRecDepth 20000 in
theorem ggL_law_X0_tick : GoodIn wsL_law wsX0_tick := goodIn_r _ [46, 12, 47, 228, 229, 230, 231, 232, 233, 234, 235, 236, 237] (by decide +kernel) (by decide +kernel)
set_option maxRecDepth 20000 in
theorem gL_law_X0_tick : GoodIn wsL_law (wsV RL 13 RX0 yX0_tick wsX0_tick) := goodIn_app (goodIn_of _ (by decide +kernel)) ggL_law_X0_tick
set_option maxRecDepth 20000 in
theorem ggL_law_X1_tick : GoodIn wsL_law wsX1_tick := goodIn_r _ [51, 52, 53, 238, 239, 240, 241, 242, 243, 244, 245, 246, 247, 248] (by decide +kernel) (by decide +kernel)
set_option maxRecDepth 20000 in
theorem gL_law_X1_tick : GoodIn wsL_law (wsV RL 17 RX1 yX1_tick wsX1_tick) := goodIn_app (goodIn_of _ (by decide +kernel)) ggL_law_X1_tick
set_option maxRecDepth 20000 in
theorem ggL_law_X0_forward : GoodIn wsL_law wsX0_forward := goodIn_r _ [57, 17, 58, 59, 2, 60, 61, 62, 63, 64, 65, 66, 228, 229, 230, 231, 232, 233, 234, 235, 236, 237] (by decide +kernel) (by decide +kernel)
set_option maxRecDepth 20000 in
theorem gL_law_X0_forward : GoodIn wsL_law (wsV RL 18 RX0 yX0_forward wsX0_forward) := goodIn_app (goodIn_of _ (by decide +kernel)) ggL_law_X0_forward
set_option maxRecDepth 20000 in
theorem ggL_law_X1_forward : GoodIn wsL_law wsX1_forward := goodIn_r _ [70, 37, 71, 72, 5, 73, 74, 75, 76, 238, 239, 240, 241, 242, 243, 244, 245, 246, 247, 248] (by decide +kernel) (by decide +kernel)
set_option maxRecDepth 20000 in
theorem gL_law_X1_forward : GoodIn wsL_law (wsV RL 22 RX1 yX1_forward wsX1_forward) := goodIn_app (goodIn_of _ (by decide +kernel)) ggL_law_X1_forward
set_option maxRecDepth 20000 in
theorem ggL_law_X0_place : GoodIn wsL_law wsX0_place := goodIn_r _ [80, 18, 58, 59, 2, 60, 61, 62, 63, 23, 24, 25, 26, 27, 28, 29, 228, 229, 230, 231, 232, 233, 234, 235, 236, 237] (by decide +kernel) (by decide +kernel)
set_option maxRecDepth 20000 in
theorem gL_law_X0_place : GoodIn wsL_law (wsV RL 23 RX0 yX0_place wsX0_place) := goodIn_app (goodIn_of _ (by decide +kernel)) ggL_law_X0_place
set_option maxRecDepth 20000 in
theorem ggL_law_X1_place : GoodIn wsL_law wsX1_place := goodIn_r _ [84, 38, 39, 71, 72, 5, 73, 74, 75, 76, 238, 239, 240, 241, 242, 243, 244, 245, 246, 247, 248] (by decide +kernel) (by decide +kernel)
set_option maxRecDepth 20000 in
theorem gL_law_X1_place : GoodIn wsL_law (wsV RL 27 RX1 yX1_place wsX1_place) := goodIn_app (goodIn_of _ (by decide +kernel)) ggL_law_X1_place
set_option maxRecDepth 20000 in
theorem ggL_law_X0_there : GoodIn wsL_law wsX0_there := goodIn_r _ [88, 13, 58, 59, 2, 60, 89, 90, 91, 64, 65, 66, 228, 229, 230, 231, 232, 233, 234, 235, 236, 237] (by decide +kernel) (by decide +kernel)
set_option maxRecDepth 20000 in
theorem gL_law_X0_there : GoodIn wsL_law (wsV RL 28 RX0 yX0_there wsX0_there) := goodIn_app (goodIn_of _ (by decide +kernel)) ggL_law_X0_there
set_option maxRecDepth 20000 in
theorem ggL_law_X1_there : GoodIn wsL_law wsX1_there := goodIn_r _ [95, 35, 74, 75, 5, 76, 238, 239, 240, 241, 242, 243, 244, 245, 246, 247, 248] (by decide +kernel) (by decide +kernel)
set_option maxRecDepth 20000 in
theorem gL_law_X1_there : GoodIn wsL_law (wsV RL 32 RX1 yX1_there wsX1_there) := goodIn_app (goodIn_of _ (by decide +kernel)) ggL_law_X1_there
set_option maxRecDepth 20000 in
theorem ggL_law_X0_deaf : GoodIn wsL_law wsX0_deaf := goodIn_r _ [99, 14, 58, 59, 2, 60, 89, 90, 91, 64, 65, 66, 228, 229, 230, 231, 232, 233, 234, 235, 236, 237] (by decide +kernel) (by decide +kernel)
set_option maxRecDepth 20000 in
theorem gL_law_X0_deaf : GoodIn wsL_law (wsV RL 33 RX0 yX0_deaf wsX0_deaf) := goodIn_app (goodIn_of _ (by decide +kernel)) ggL_law_X0_deaf
set_option maxRecDepth 20000 in
theorem ggL_law_X1_deaf : GoodIn wsL_law wsX1_deaf := goodIn_r _ [103, 36, 74, 75, 5, 76, 238, 239, 240, 241, 242, 243, 244, 245, 246, 247, 248] (by decide +kernel) (by decide +kernel)
set_option maxRecDepth 20000 in
theorem gL_law_X1_deaf : GoodIn wsL_law (wsV RL 36 RX1 yX1_deaf wsX1_deaf) := goodIn_app (goodIn_of _ (by decide +kernel)) ggL_law_X1_deaf
set_option maxRecDepth 20000 in
theorem ggL_law_X0_data : GoodIn wsL_law wsX0_data := goodIn_r _ [107, 13, 22, 21, 15, 58, 59, 2, 60, 61, 62, 63, 89, 90, 91, 108, 109, 110, 111, 112, 113, 114, 115, 14, 116, 117, 118, 119, 17, 23, 24, 25, 120, 121, 122, 123, 19, 18, 124, 125, 126, 127, 12, 20, 128, 129, 130, 131, 132, 133, 134, 135, 136, 137, 138, 139, 140, 141, 142, 143, 144, 145, 228, 229, 230, 231, 232, 233, 234, 235, 236, 237] (by decide +kernel) (by decide +kernel)
set_option maxRecDepth 20000 in
theorem gL_law_X0_data : GoodIn wsL_law (wsV RL 37 RX0 yX0_data wsX0_data) := goodIn_app (goodIn_of _ (by decide +kernel)) ggL_law_X0_data
set_option maxRecDepth 20000 in
theorem ggL_law_X1_data : GoodIn wsL_law wsX1_data := goodIn_r _ [149, 35, 150, 36, 42, 71, 72, 5, 73, 74, 75, 76, 151, 152, 153, 154, 37, 155, 156, 157, 158, 159, 160, 161, 162, 40, 52, 41, 163, 164, 165, 166, 38, 167, 39, 168, 169, 170, 171, 172, 173, 174, 175, 176, 177, 178, 179, 238, 239, 240, 241, 242, 243, 244, 245, 246, 247, 248] (by decide +kernel) (by decide +kernel)
set_option maxRecDepth 20000 in
theorem gL_law_X1_data : GoodIn wsL_law (wsV RL 41 RX1 yX1_data wsX1_data) := goodIn_app (goodIn_of _ (by decide +kernel)) ggL_law_X1_data
set_option maxRecDepth 20000 in
theorem ggL_law_X0_said : GoodIn wsL_law wsX0_said := goodIn_r _ [183, 22, 21, 228, 229, 230, 231, 232, 233, 234, 235, 236, 237] (by decide +kernel) (by decide +kernel)
set_option maxRecDepth 20000 in
theorem gL_law_X0_said : GoodIn wsL_law (wsV RL 42 RX0 yX0_said wsX0_said) := goodIn_app (goodIn_of _ (by decide +kernel)) ggL_law_X0_said
set_option maxRecDepth 20000 in
theorem ggL_law_X1_said : GoodIn wsL_law wsX1_said := goodIn_r _ [187, 150, 42, 238, 239, 240, 241, 242, 243, 244, 245, 246, 247, 248] (by decide +kernel) (by decide +kernel)
set_option maxRecDepth 20000 in
theorem gL_law_X1_said : GoodIn wsL_law (wsV RL 45 RX1 yX1_said wsX1_said) := goodIn_app (goodIn_of _ (by decide +kernel)) ggL_law_X1_said
set_option maxRecDepth 20000 in
theorem ggL_law_X0_claim : GoodIn wsL_law wsX0_claim := goodIn_r _ [191, 18, 58, 59, 2, 60, 61, 62, 63, 23, 24, 25, 228, 229, 230, 231, 232, 233, 234, 235, 236, 237] (by decide +kernel) (by decide +kernel)
set_option maxRecDepth 20000 in
theorem gL_law_X0_claim : GoodIn wsL_law (wsV RL 46 RX0 yX0_claim wsX0_claim) := goodIn_app (goodIn_of _ (by decide +kernel)) ggL_law_X0_claim
set_option maxRecDepth 20000 in
theorem ggL_law_X1_claim : GoodIn wsL_law wsX1_claim := goodIn_r _ [195, 71, 72, 5, 73, 74, 75, 76, 163, 164, 165, 166, 38, 167, 39, 238, 239, 240, 241, 242, 243, 244, 245, 246, 247, 248] (by decide +kernel) (by decide +kernel)
set_option maxRecDepth 20000 in
theorem gL_law_X1_claim : GoodIn wsL_law (wsV RL 49 RX1 yX1_claim wsX1_claim) := goodIn_app (goodIn_of _ (by decide +kernel)) ggL_law_X1_claim
set_option maxRecDepth 20000 in
theorem ggL_law_X0_kept : GoodIn wsL_law wsX0_kept := goodIn_r _ [199, 19, 58, 59, 2, 60, 61, 62, 63, 23, 24, 25, 124, 125, 126, 127, 12, 20, 13, 128, 129, 130, 89, 90, 91, 228, 229, 230, 231, 232, 233, 234, 235, 236, 237] (by decide +kernel) (by decide +kernel)
set_option maxRecDepth 20000 in
theorem gL_law_X0_kept : GoodIn wsL_law (wsV RL 50 RX0 yX0_kept wsX0_kept) := goodIn_app (goodIn_of _ (by decide +kernel)) ggL_law_X0_kept
set_option maxRecDepth 20000 in
theorem ggL_law_X1_kept : GoodIn wsL_law wsX1_kept := goodIn_r _ [203, 71, 72, 5, 73, 74, 75, 76, 159, 160, 161, 162, 40, 52, 41, 35, 238, 239, 240, 241, 242, 243, 244, 245, 246, 247, 248] (by decide +kernel) (by decide +kernel)
set_option maxRecDepth 20000 in
theorem gL_law_X1_kept : GoodIn wsL_law (wsV RL 53 RX1 yX1_kept wsX1_kept) := goodIn_app (goodIn_of _ (by decide +kernel)) ggL_law_X1_kept
set_option maxRecDepth 20000 in
theorem ggL_law_X0_lost : GoodIn wsL_law wsX0_lost := goodIn_r _ [207, 58, 59, 2, 60, 61, 62, 63, 23, 24, 25, 120, 121, 122, 123, 19, 18, 124, 125, 126, 127, 12, 20, 13, 128, 129, 130, 89, 90, 91, 131, 132, 133, 228, 229, 230, 231, 232, 233, 234, 235, 236, 237] (by decide +kernel) (by decide +kernel)
set_option maxRecDepth 20000 in
theorem gL_law_X0_lost : GoodIn wsL_law (wsV RL 54 RX0 yX0_lost wsX0_lost) := goodIn_app (goodIn_of _ (by decide +kernel)) ggL_law_X0_lost
set_option maxRecDepth 20000 in
theorem ggL_law_X1_lost : GoodIn wsL_law wsX1_lost := goodIn_r _ [211, 71, 72, 5, 73, 74, 75, 76, 155, 156, 157, 158, 159, 160, 161, 162, 40, 52, 41, 35, 163, 164, 165, 166, 38, 167, 39, 168, 169, 170, 238, 239, 240, 241, 242, 243, 244, 245, 246, 247, 248] (by decide +kernel) (by decide +kernel)
set_option maxRecDepth 20000 in
theorem gL_law_X1_lost : GoodIn wsL_law (wsV RL 58 RX1 yX1_lost wsX1_lost) := goodIn_app (goodIn_of _ (by decide +kernel)) ggL_law_X1_lost
set_option maxRecDepth 20000 in
theorem ggL_law_X0_sends : GoodIn wsL_law wsX0_sends := goodIn_r _ [215, 61, 62, 2, 63, 116, 117, 118, 119, 13, 17, 89, 90, 91, 23, 24, 25, 120, 121, 122, 123, 19, 18, 124, 125, 126, 127, 12, 20, 128, 129, 130, 131, 132, 133, 64, 65, 66, 228, 229, 230, 231, 232, 233, 234, 235, 236, 237] (by decide +kernel) (by decide +kernel)
set_option maxRecDepth 20000 in
theorem gL_law_X0_sends : GoodIn wsL_law (wsV RL 59 RX0 yX0_sends wsX0_sends) := goodIn_app (goodIn_of _ (by decide +kernel)) ggL_law_X0_sends
set_option maxRecDepth 20000 in
theorem ggL_law_X1_sends : GoodIn wsL_law wsX1_sends := goodIn_r _ [219, 71, 72, 5, 73, 74, 75, 76, 151, 152, 153, 154, 35, 37, 155, 156, 157, 158, 159, 160, 161, 162, 40, 52, 41, 163, 164, 165, 166, 38, 167, 39, 168, 169, 170, 238, 239, 240, 241, 242, 243, 244, 245, 246, 247, 248] (by decide +kernel) (by decide +kernel)
set_option maxRecDepth 20000 in
theorem gL_law_X1_sends : GoodIn wsL_law (wsV RL 62 RX1 yX1_sends wsX1_sends) := goodIn_app (goodIn_of _ (by decide +kernel)) ggL_law_X1_sends
set_option maxRecDepth 20000 in
theorem ggL_law_X0_look : GoodIn wsL_law wsX0_look := goodIn_r _ [223, 12, 13, 14, 15, 228, 229, 230, 231, 232, 233, 234, 235, 236, 237] (by decide +kernel) (by decide +kernel)
set_option maxRecDepth 20000 in
theorem gL_law_X0_look : GoodIn wsL_law (wsV RL 63 RX0 yX0_look wsX0_look) := goodIn_app (goodIn_of _ (by decide +kernel)) ggL_law_X0_look
set_option maxRecDepth 20000 in
theorem ggL_law_X1_look : GoodIn wsL_law wsX1_look := goodIn_r _ [227, 52, 175, 35, 36, 238, 239, 240, 241, 242, 243, 244, 245, 246, 247, 248] (by decide +kernel) (by decide +kernel)
set_option maxRecDepth 20000 in
theorem gL_law_X1_look : GoodIn wsL_law (wsV RL 66 RX1 yX1_look wsX1_look) := goodIn_app (goodIn_of _ (by decide +kernel)) ggL_law_X1_look
theorem dL_law_0 : decode cL_law 0 = .ok (.new 7, 3) := by decide +kernel
theorem dL_law_3 : decode cL_law 3 = .ok (.dup, 1) := by decide +kernel
theorem dL_law_4 : decode cL_law 4 = .ok (.invokespecial 9, 3) := by decide +kernel
theorem dL_law_7 : decode cL_law 7 = .ok (.astore_n 1, 1) := by decide +kernel
theorem dL_law_8 : decode cL_law 8 = .ok (.new 10, 3) := by decide +kernel
theorem dL_law_11 : decode cL_law 11 = .ok (.dup, 1) := by decide +kernel
theorem dL_law_12 : decode cL_law 12 = .ok (.invokespecial 12, 3) := by decide +kernel
theorem dL_law_15 : decode cL_law 15 = .ok (.astore_n 2, 1) := by decide +kernel
theorem dL_law_16 : decode cL_law 16 = .ok (.iconst 0, 1) := by decide +kernel
theorem dL_law_17 : decode cL_law 17 = .ok (.istore_n 3, 1) := by decide +kernel
theorem dL_law_18 : decode cL_law 18 = .ok (.iload_n 3, 1) := by decide +kernel
theorem dL_law_19 : decode cL_law 19 = .ok (.aload_n 0, 1) := by decide +kernel
theorem dL_law_20 : decode cL_law 20 = .ok (.arraylength, 1) := by decide +kernel
theorem dL_law_21 : decode cL_law 21 = .ok (.iconst 5, 1) := by decide +kernel
theorem dL_law_22 : decode cL_law 22 = .ok (.isub, 1) := by decide +kernel
theorem dL_law_23 : decode cL_law 23 = .ok (.if_icmp .gt 529, 3) := by decide +kernel
theorem dL_law_26 : decode cL_law 26 = .ok (.aload_n 0, 1) := by decide +kernel
theorem dL_law_27 : decode cL_law 27 = .ok (.iload_n 3, 1) := by decide +kernel
theorem dL_law_28 : decode cL_law 28 = .ok (.iaload, 1) := by decide +kernel
theorem dL_law_29 : decode cL_law 29 = .ok (.bipush 15, 2) := by decide +kernel
theorem dL_law_31 : decode cL_law 31 = .ok (.iand, 1) := by decide +kernel
theorem dL_law_32 : decode cL_law 32 = .ok (.tableswitch 514 0 11 #[64, 87, 146, 215, 264, 313, 346, 369, 402, 435, 468, 491], 64) := by decide +kernel
theorem dL_law_96 : decode cL_law 96 = .ok (.aload_n 1, 1) := by decide +kernel
theorem dL_law_97 : decode cL_law 97 = .ok (.aload_n 0, 1) := by decide +kernel
theorem dL_law_98 : decode cL_law 98 = .ok (.iload_n 3, 1) := by decide +kernel
theorem dL_law_99 : decode cL_law 99 = .ok (.iconst 1, 1) := by decide +kernel
theorem dL_law_100 : decode cL_law 100 = .ok (.iadd, 1) := by decide +kernel
theorem dL_law_101 : decode cL_law 101 = .ok (.iaload, 1) := by decide +kernel
theorem dL_law_102 : decode cL_law 102 = .ok (.invokevirtual 13, 3) := by decide +kernel
theorem dL_law_105 : decode cL_law 105 = .ok (.aload_n 2, 1) := by decide +kernel
theorem dL_law_106 : decode cL_law 106 = .ok (.aload_n 0, 1) := by decide +kernel
theorem dL_law_107 : decode cL_law 107 = .ok (.iload_n 3, 1) := by decide +kernel
theorem dL_law_108 : decode cL_law 108 = .ok (.iconst 1, 1) := by decide +kernel
theorem dL_law_109 : decode cL_law 109 = .ok (.iadd, 1) := by decide +kernel
theorem dL_law_110 : decode cL_law 110 = .ok (.iaload, 1) := by decide +kernel
theorem dL_law_111 : decode cL_law 111 = .ok (.invokevirtual 17, 3) := by decide +kernel
theorem dL_law_114 : decode cL_law 114 = .ok (.if_icmp .eq 432, 3) := by decide +kernel
theorem dL_law_117 : decode cL_law 117 = .ok (.iconst 0, 1) := by decide +kernel
theorem dL_law_118 : decode cL_law 118 = .ok (.ireturn, 1) := by decide +kernel
theorem dL_law_119 : decode cL_law 119 = .ok (.aload_n 1, 1) := by decide +kernel
theorem dL_law_120 : decode cL_law 120 = .ok (.aload_n 0, 1) := by decide +kernel
theorem dL_law_121 : decode cL_law 121 = .ok (.iload_n 3, 1) := by decide +kernel
theorem dL_law_122 : decode cL_law 122 = .ok (.iconst 1, 1) := by decide +kernel
theorem dL_law_123 : decode cL_law 123 = .ok (.iadd, 1) := by decide +kernel
theorem dL_law_124 : decode cL_law 124 = .ok (.iaload, 1) := by decide +kernel
theorem dL_law_125 : decode cL_law 125 = .ok (.aload_n 0, 1) := by decide +kernel
theorem dL_law_126 : decode cL_law 126 = .ok (.iload_n 3, 1) := by decide +kernel
theorem dL_law_127 : decode cL_law 127 = .ok (.iconst 2, 1) := by decide +kernel
theorem dL_law_128 : decode cL_law 128 = .ok (.iadd, 1) := by decide +kernel
theorem dL_law_129 : decode cL_law 129 = .ok (.iaload, 1) := by decide +kernel
theorem dL_law_130 : decode cL_law 130 = .ok (.aload_n 0, 1) := by decide +kernel
theorem dL_law_131 : decode cL_law 131 = .ok (.iload_n 3, 1) := by decide +kernel
theorem dL_law_132 : decode cL_law 132 = .ok (.iconst 3, 1) := by decide +kernel
theorem dL_law_133 : decode cL_law 133 = .ok (.iadd, 1) := by decide +kernel
theorem dL_law_134 : decode cL_law 134 = .ok (.iaload, 1) := by decide +kernel
theorem dL_law_135 : decode cL_law 135 = .ok (.ifCond .eq 7, 3) := by decide +kernel
theorem dL_law_138 : decode cL_law 138 = .ok (.iconst 1, 1) := by decide +kernel
theorem dL_law_139 : decode cL_law 139 = .ok (.goto 4, 3) := by decide +kernel
theorem dL_law_142 : decode cL_law 142 = .ok (.iconst 0, 1) := by decide +kernel
theorem dL_law_143 : decode cL_law 143 = .ok (.invokevirtual 18, 3) := by decide +kernel
theorem dL_law_146 : decode cL_law 146 = .ok (.aload_n 2, 1) := by decide +kernel
theorem dL_law_147 : decode cL_law 147 = .ok (.aload_n 0, 1) := by decide +kernel
theorem dL_law_148 : decode cL_law 148 = .ok (.iload_n 3, 1) := by decide +kernel
theorem dL_law_149 : decode cL_law 149 = .ok (.iconst 1, 1) := by decide +kernel
theorem dL_law_150 : decode cL_law 150 = .ok (.iadd, 1) := by decide +kernel
theorem dL_law_151 : decode cL_law 151 = .ok (.iaload, 1) := by decide +kernel
theorem dL_law_152 : decode cL_law 152 = .ok (.aload_n 0, 1) := by decide +kernel
theorem dL_law_153 : decode cL_law 153 = .ok (.iload_n 3, 1) := by decide +kernel
theorem dL_law_154 : decode cL_law 154 = .ok (.iconst 2, 1) := by decide +kernel
theorem dL_law_155 : decode cL_law 155 = .ok (.iadd, 1) := by decide +kernel
theorem dL_law_156 : decode cL_law 156 = .ok (.iaload, 1) := by decide +kernel
theorem dL_law_157 : decode cL_law 157 = .ok (.aload_n 0, 1) := by decide +kernel
theorem dL_law_158 : decode cL_law 158 = .ok (.iload_n 3, 1) := by decide +kernel
theorem dL_law_159 : decode cL_law 159 = .ok (.iconst 3, 1) := by decide +kernel
theorem dL_law_160 : decode cL_law 160 = .ok (.iadd, 1) := by decide +kernel
theorem dL_law_161 : decode cL_law 161 = .ok (.iaload, 1) := by decide +kernel
theorem dL_law_162 : decode cL_law 162 = .ok (.ifCond .eq 7, 3) := by decide +kernel
theorem dL_law_165 : decode cL_law 165 = .ok (.iconst 1, 1) := by decide +kernel
theorem dL_law_166 : decode cL_law 166 = .ok (.goto 4, 3) := by decide +kernel
theorem dL_law_169 : decode cL_law 169 = .ok (.iconst 0, 1) := by decide +kernel
theorem dL_law_170 : decode cL_law 170 = .ok (.invokevirtual 22, 3) := by decide +kernel
theorem dL_law_173 : decode cL_law 173 = .ok (.if_icmp .eq 373, 3) := by decide +kernel
theorem dL_law_176 : decode cL_law 176 = .ok (.iconst 0, 1) := by decide +kernel
theorem dL_law_177 : decode cL_law 177 = .ok (.ireturn, 1) := by decide +kernel
theorem dL_law_178 : decode cL_law 178 = .ok (.aload_n 1, 1) := by decide +kernel
theorem dL_law_179 : decode cL_law 179 = .ok (.aload_n 0, 1) := by decide +kernel
theorem dL_law_180 : decode cL_law 180 = .ok (.iload_n 3, 1) := by decide +kernel
theorem dL_law_181 : decode cL_law 181 = .ok (.iconst 1, 1) := by decide +kernel
theorem dL_law_182 : decode cL_law 182 = .ok (.iadd, 1) := by decide +kernel
theorem dL_law_183 : decode cL_law 183 = .ok (.iaload, 1) := by decide +kernel
theorem dL_law_184 : decode cL_law 184 = .ok (.aload_n 0, 1) := by decide +kernel
theorem dL_law_185 : decode cL_law 185 = .ok (.iload_n 3, 1) := by decide +kernel
theorem dL_law_186 : decode cL_law 186 = .ok (.iconst 2, 1) := by decide +kernel
theorem dL_law_187 : decode cL_law 187 = .ok (.iadd, 1) := by decide +kernel
theorem dL_law_188 : decode cL_law 188 = .ok (.iaload, 1) := by decide +kernel
theorem dL_law_189 : decode cL_law 189 = .ok (.aload_n 0, 1) := by decide +kernel
theorem dL_law_190 : decode cL_law 190 = .ok (.iload_n 3, 1) := by decide +kernel
theorem dL_law_191 : decode cL_law 191 = .ok (.iconst 3, 1) := by decide +kernel
theorem dL_law_192 : decode cL_law 192 = .ok (.iadd, 1) := by decide +kernel
theorem dL_law_193 : decode cL_law 193 = .ok (.iaload, 1) := by decide +kernel
theorem dL_law_194 : decode cL_law 194 = .ok (.ifCond .eq 7, 3) := by decide +kernel
theorem dL_law_197 : decode cL_law 197 = .ok (.iconst 1, 1) := by decide +kernel
theorem dL_law_198 : decode cL_law 198 = .ok (.goto 4, 3) := by decide +kernel
theorem dL_law_201 : decode cL_law 201 = .ok (.iconst 0, 1) := by decide +kernel
theorem dL_law_202 : decode cL_law 202 = .ok (.aload_n 0, 1) := by decide +kernel
theorem dL_law_203 : decode cL_law 203 = .ok (.iload_n 3, 1) := by decide +kernel
theorem dL_law_204 : decode cL_law 204 = .ok (.iconst 4, 1) := by decide +kernel
theorem dL_law_205 : decode cL_law 205 = .ok (.iadd, 1) := by decide +kernel
theorem dL_law_206 : decode cL_law 206 = .ok (.iaload, 1) := by decide +kernel
theorem dL_law_207 : decode cL_law 207 = .ok (.invokevirtual 23, 3) := by decide +kernel
theorem dL_law_210 : decode cL_law 210 = .ok (.aload_n 2, 1) := by decide +kernel
theorem dL_law_211 : decode cL_law 211 = .ok (.aload_n 0, 1) := by decide +kernel
theorem dL_law_212 : decode cL_law 212 = .ok (.iload_n 3, 1) := by decide +kernel
theorem dL_law_213 : decode cL_law 213 = .ok (.iconst 1, 1) := by decide +kernel
theorem dL_law_214 : decode cL_law 214 = .ok (.iadd, 1) := by decide +kernel
theorem dL_law_215 : decode cL_law 215 = .ok (.iaload, 1) := by decide +kernel
theorem dL_law_216 : decode cL_law 216 = .ok (.aload_n 0, 1) := by decide +kernel
theorem dL_law_217 : decode cL_law 217 = .ok (.iload_n 3, 1) := by decide +kernel
theorem dL_law_218 : decode cL_law 218 = .ok (.iconst 2, 1) := by decide +kernel
theorem dL_law_219 : decode cL_law 219 = .ok (.iadd, 1) := by decide +kernel
theorem dL_law_220 : decode cL_law 220 = .ok (.iaload, 1) := by decide +kernel
theorem dL_law_221 : decode cL_law 221 = .ok (.aload_n 0, 1) := by decide +kernel
theorem dL_law_222 : decode cL_law 222 = .ok (.iload_n 3, 1) := by decide +kernel
theorem dL_law_223 : decode cL_law 223 = .ok (.iconst 3, 1) := by decide +kernel
theorem dL_law_224 : decode cL_law 224 = .ok (.iadd, 1) := by decide +kernel
theorem dL_law_225 : decode cL_law 225 = .ok (.iaload, 1) := by decide +kernel
theorem dL_law_226 : decode cL_law 226 = .ok (.ifCond .eq 7, 3) := by decide +kernel
theorem dL_law_229 : decode cL_law 229 = .ok (.iconst 1, 1) := by decide +kernel
theorem dL_law_230 : decode cL_law 230 = .ok (.goto 4, 3) := by decide +kernel
theorem dL_law_233 : decode cL_law 233 = .ok (.iconst 0, 1) := by decide +kernel
theorem dL_law_234 : decode cL_law 234 = .ok (.aload_n 0, 1) := by decide +kernel
theorem dL_law_235 : decode cL_law 235 = .ok (.iload_n 3, 1) := by decide +kernel
theorem dL_law_236 : decode cL_law 236 = .ok (.iconst 4, 1) := by decide +kernel
theorem dL_law_237 : decode cL_law 237 = .ok (.iadd, 1) := by decide +kernel
theorem dL_law_238 : decode cL_law 238 = .ok (.iaload, 1) := by decide +kernel
theorem dL_law_239 : decode cL_law 239 = .ok (.invokevirtual 27, 3) := by decide +kernel
theorem dL_law_242 : decode cL_law 242 = .ok (.if_icmp .eq 304, 3) := by decide +kernel
theorem dL_law_245 : decode cL_law 245 = .ok (.iconst 0, 1) := by decide +kernel
theorem dL_law_246 : decode cL_law 246 = .ok (.ireturn, 1) := by decide +kernel
theorem dL_law_247 : decode cL_law 247 = .ok (.aload_n 1, 1) := by decide +kernel
theorem dL_law_248 : decode cL_law 248 = .ok (.aload_n 0, 1) := by decide +kernel
theorem dL_law_249 : decode cL_law 249 = .ok (.iload_n 3, 1) := by decide +kernel
theorem dL_law_250 : decode cL_law 250 = .ok (.iconst 1, 1) := by decide +kernel
theorem dL_law_251 : decode cL_law 251 = .ok (.iadd, 1) := by decide +kernel
theorem dL_law_252 : decode cL_law 252 = .ok (.iaload, 1) := by decide +kernel
theorem dL_law_253 : decode cL_law 253 = .ok (.aload_n 0, 1) := by decide +kernel
theorem dL_law_254 : decode cL_law 254 = .ok (.iload_n 3, 1) := by decide +kernel
theorem dL_law_255 : decode cL_law 255 = .ok (.iconst 2, 1) := by decide +kernel
theorem dL_law_256 : decode cL_law 256 = .ok (.iadd, 1) := by decide +kernel
theorem dL_law_257 : decode cL_law 257 = .ok (.iaload, 1) := by decide +kernel
theorem dL_law_258 : decode cL_law 258 = .ok (.ifCond .eq 7, 3) := by decide +kernel
theorem dL_law_261 : decode cL_law 261 = .ok (.iconst 1, 1) := by decide +kernel
theorem dL_law_262 : decode cL_law 262 = .ok (.goto 4, 3) := by decide +kernel
theorem dL_law_265 : decode cL_law 265 = .ok (.iconst 0, 1) := by decide +kernel
theorem dL_law_266 : decode cL_law 266 = .ok (.invokevirtual 28, 3) := by decide +kernel
theorem dL_law_269 : decode cL_law 269 = .ok (.aload_n 2, 1) := by decide +kernel
theorem dL_law_270 : decode cL_law 270 = .ok (.aload_n 0, 1) := by decide +kernel
theorem dL_law_271 : decode cL_law 271 = .ok (.iload_n 3, 1) := by decide +kernel
theorem dL_law_272 : decode cL_law 272 = .ok (.iconst 1, 1) := by decide +kernel
theorem dL_law_273 : decode cL_law 273 = .ok (.iadd, 1) := by decide +kernel
theorem dL_law_274 : decode cL_law 274 = .ok (.iaload, 1) := by decide +kernel
theorem dL_law_275 : decode cL_law 275 = .ok (.aload_n 0, 1) := by decide +kernel
theorem dL_law_276 : decode cL_law 276 = .ok (.iload_n 3, 1) := by decide +kernel
theorem dL_law_277 : decode cL_law 277 = .ok (.iconst 2, 1) := by decide +kernel
theorem dL_law_278 : decode cL_law 278 = .ok (.iadd, 1) := by decide +kernel
theorem dL_law_279 : decode cL_law 279 = .ok (.iaload, 1) := by decide +kernel
theorem dL_law_280 : decode cL_law 280 = .ok (.ifCond .eq 7, 3) := by decide +kernel
theorem dL_law_283 : decode cL_law 283 = .ok (.iconst 1, 1) := by decide +kernel
theorem dL_law_284 : decode cL_law 284 = .ok (.goto 4, 3) := by decide +kernel
theorem dL_law_287 : decode cL_law 287 = .ok (.iconst 0, 1) := by decide +kernel
theorem dL_law_288 : decode cL_law 288 = .ok (.invokevirtual 32, 3) := by decide +kernel
theorem dL_law_291 : decode cL_law 291 = .ok (.if_icmp .eq 255, 3) := by decide +kernel
theorem dL_law_294 : decode cL_law 294 = .ok (.iconst 0, 1) := by decide +kernel
theorem dL_law_295 : decode cL_law 295 = .ok (.ireturn, 1) := by decide +kernel
theorem dL_law_296 : decode cL_law 296 = .ok (.aload_n 1, 1) := by decide +kernel
theorem dL_law_297 : decode cL_law 297 = .ok (.aload_n 0, 1) := by decide +kernel
theorem dL_law_298 : decode cL_law 298 = .ok (.iload_n 3, 1) := by decide +kernel
theorem dL_law_299 : decode cL_law 299 = .ok (.iconst 1, 1) := by decide +kernel
theorem dL_law_300 : decode cL_law 300 = .ok (.iadd, 1) := by decide +kernel
theorem dL_law_301 : decode cL_law 301 = .ok (.iaload, 1) := by decide +kernel
theorem dL_law_302 : decode cL_law 302 = .ok (.aload_n 0, 1) := by decide +kernel
theorem dL_law_303 : decode cL_law 303 = .ok (.iload_n 3, 1) := by decide +kernel
theorem dL_law_304 : decode cL_law 304 = .ok (.iconst 2, 1) := by decide +kernel
theorem dL_law_305 : decode cL_law 305 = .ok (.iadd, 1) := by decide +kernel
theorem dL_law_306 : decode cL_law 306 = .ok (.iaload, 1) := by decide +kernel
theorem dL_law_307 : decode cL_law 307 = .ok (.ifCond .eq 7, 3) := by decide +kernel
theorem dL_law_310 : decode cL_law 310 = .ok (.iconst 1, 1) := by decide +kernel
theorem dL_law_311 : decode cL_law 311 = .ok (.goto 4, 3) := by decide +kernel
theorem dL_law_314 : decode cL_law 314 = .ok (.iconst 0, 1) := by decide +kernel
theorem dL_law_315 : decode cL_law 315 = .ok (.invokevirtual 33, 3) := by decide +kernel
theorem dL_law_318 : decode cL_law 318 = .ok (.aload_n 2, 1) := by decide +kernel
theorem dL_law_319 : decode cL_law 319 = .ok (.aload_n 0, 1) := by decide +kernel
theorem dL_law_320 : decode cL_law 320 = .ok (.iload_n 3, 1) := by decide +kernel
theorem dL_law_321 : decode cL_law 321 = .ok (.iconst 1, 1) := by decide +kernel
theorem dL_law_322 : decode cL_law 322 = .ok (.iadd, 1) := by decide +kernel
theorem dL_law_323 : decode cL_law 323 = .ok (.iaload, 1) := by decide +kernel
theorem dL_law_324 : decode cL_law 324 = .ok (.aload_n 0, 1) := by decide +kernel
theorem dL_law_325 : decode cL_law 325 = .ok (.iload_n 3, 1) := by decide +kernel
theorem dL_law_326 : decode cL_law 326 = .ok (.iconst 2, 1) := by decide +kernel
theorem dL_law_327 : decode cL_law 327 = .ok (.iadd, 1) := by decide +kernel
theorem dL_law_328 : decode cL_law 328 = .ok (.iaload, 1) := by decide +kernel
theorem dL_law_329 : decode cL_law 329 = .ok (.ifCond .eq 7, 3) := by decide +kernel
theorem dL_law_332 : decode cL_law 332 = .ok (.iconst 1, 1) := by decide +kernel
theorem dL_law_333 : decode cL_law 333 = .ok (.goto 4, 3) := by decide +kernel
theorem dL_law_336 : decode cL_law 336 = .ok (.iconst 0, 1) := by decide +kernel
theorem dL_law_337 : decode cL_law 337 = .ok (.invokevirtual 36, 3) := by decide +kernel
theorem dL_law_340 : decode cL_law 340 = .ok (.if_icmp .eq 206, 3) := by decide +kernel
theorem dL_law_343 : decode cL_law 343 = .ok (.iconst 0, 1) := by decide +kernel
theorem dL_law_344 : decode cL_law 344 = .ok (.ireturn, 1) := by decide +kernel
theorem dL_law_345 : decode cL_law 345 = .ok (.aload_n 1, 1) := by decide +kernel
theorem dL_law_346 : decode cL_law 346 = .ok (.aload_n 0, 1) := by decide +kernel
theorem dL_law_347 : decode cL_law 347 = .ok (.iload_n 3, 1) := by decide +kernel
theorem dL_law_348 : decode cL_law 348 = .ok (.iconst 1, 1) := by decide +kernel
theorem dL_law_349 : decode cL_law 349 = .ok (.iadd, 1) := by decide +kernel
theorem dL_law_350 : decode cL_law 350 = .ok (.iaload, 1) := by decide +kernel
theorem dL_law_351 : decode cL_law 351 = .ok (.aload_n 0, 1) := by decide +kernel
theorem dL_law_352 : decode cL_law 352 = .ok (.iload_n 3, 1) := by decide +kernel
theorem dL_law_353 : decode cL_law 353 = .ok (.iconst 2, 1) := by decide +kernel
theorem dL_law_354 : decode cL_law 354 = .ok (.iadd, 1) := by decide +kernel
theorem dL_law_355 : decode cL_law 355 = .ok (.iaload, 1) := by decide +kernel
theorem dL_law_356 : decode cL_law 356 = .ok (.invokevirtual 37, 3) := by decide +kernel
theorem dL_law_359 : decode cL_law 359 = .ok (.aload_n 2, 1) := by decide +kernel
theorem dL_law_360 : decode cL_law 360 = .ok (.aload_n 0, 1) := by decide +kernel
theorem dL_law_361 : decode cL_law 361 = .ok (.iload_n 3, 1) := by decide +kernel
theorem dL_law_362 : decode cL_law 362 = .ok (.iconst 1, 1) := by decide +kernel
theorem dL_law_363 : decode cL_law 363 = .ok (.iadd, 1) := by decide +kernel
theorem dL_law_364 : decode cL_law 364 = .ok (.iaload, 1) := by decide +kernel
theorem dL_law_365 : decode cL_law 365 = .ok (.aload_n 0, 1) := by decide +kernel
theorem dL_law_366 : decode cL_law 366 = .ok (.iload_n 3, 1) := by decide +kernel
theorem dL_law_367 : decode cL_law 367 = .ok (.iconst 2, 1) := by decide +kernel
theorem dL_law_368 : decode cL_law 368 = .ok (.iadd, 1) := by decide +kernel
theorem dL_law_369 : decode cL_law 369 = .ok (.iaload, 1) := by decide +kernel
theorem dL_law_370 : decode cL_law 370 = .ok (.invokevirtual 41, 3) := by decide +kernel
theorem dL_law_373 : decode cL_law 373 = .ok (.if_icmp .eq 173, 3) := by decide +kernel
theorem dL_law_376 : decode cL_law 376 = .ok (.iconst 0, 1) := by decide +kernel
theorem dL_law_377 : decode cL_law 377 = .ok (.ireturn, 1) := by decide +kernel
theorem dL_law_378 : decode cL_law 378 = .ok (.aload_n 1, 1) := by decide +kernel
theorem dL_law_379 : decode cL_law 379 = .ok (.aload_n 0, 1) := by decide +kernel
theorem dL_law_380 : decode cL_law 380 = .ok (.iload_n 3, 1) := by decide +kernel
theorem dL_law_381 : decode cL_law 381 = .ok (.iconst 1, 1) := by decide +kernel
theorem dL_law_382 : decode cL_law 382 = .ok (.iadd, 1) := by decide +kernel
theorem dL_law_383 : decode cL_law 383 = .ok (.iaload, 1) := by decide +kernel
theorem dL_law_384 : decode cL_law 384 = .ok (.invokevirtual 42, 3) := by decide +kernel
theorem dL_law_387 : decode cL_law 387 = .ok (.aload_n 2, 1) := by decide +kernel
theorem dL_law_388 : decode cL_law 388 = .ok (.aload_n 0, 1) := by decide +kernel
theorem dL_law_389 : decode cL_law 389 = .ok (.iload_n 3, 1) := by decide +kernel
theorem dL_law_390 : decode cL_law 390 = .ok (.iconst 1, 1) := by decide +kernel
theorem dL_law_391 : decode cL_law 391 = .ok (.iadd, 1) := by decide +kernel
theorem dL_law_392 : decode cL_law 392 = .ok (.iaload, 1) := by decide +kernel
theorem dL_law_393 : decode cL_law 393 = .ok (.invokevirtual 45, 3) := by decide +kernel
theorem dL_law_396 : decode cL_law 396 = .ok (.if_icmp .eq 150, 3) := by decide +kernel
theorem dL_law_399 : decode cL_law 399 = .ok (.iconst 0, 1) := by decide +kernel
theorem dL_law_400 : decode cL_law 400 = .ok (.ireturn, 1) := by decide +kernel
theorem dL_law_401 : decode cL_law 401 = .ok (.aload_n 1, 1) := by decide +kernel
theorem dL_law_402 : decode cL_law 402 = .ok (.aload_n 0, 1) := by decide +kernel
theorem dL_law_403 : decode cL_law 403 = .ok (.iload_n 3, 1) := by decide +kernel
theorem dL_law_404 : decode cL_law 404 = .ok (.iconst 1, 1) := by decide +kernel
theorem dL_law_405 : decode cL_law 405 = .ok (.iadd, 1) := by decide +kernel
theorem dL_law_406 : decode cL_law 406 = .ok (.iaload, 1) := by decide +kernel
theorem dL_law_407 : decode cL_law 407 = .ok (.aload_n 0, 1) := by decide +kernel
theorem dL_law_408 : decode cL_law 408 = .ok (.iload_n 3, 1) := by decide +kernel
theorem dL_law_409 : decode cL_law 409 = .ok (.iconst 2, 1) := by decide +kernel
theorem dL_law_410 : decode cL_law 410 = .ok (.iadd, 1) := by decide +kernel
theorem dL_law_411 : decode cL_law 411 = .ok (.iaload, 1) := by decide +kernel
theorem dL_law_412 : decode cL_law 412 = .ok (.invokevirtual 46, 3) := by decide +kernel
theorem dL_law_415 : decode cL_law 415 = .ok (.aload_n 2, 1) := by decide +kernel
theorem dL_law_416 : decode cL_law 416 = .ok (.aload_n 0, 1) := by decide +kernel
theorem dL_law_417 : decode cL_law 417 = .ok (.iload_n 3, 1) := by decide +kernel
theorem dL_law_418 : decode cL_law 418 = .ok (.iconst 1, 1) := by decide +kernel
theorem dL_law_419 : decode cL_law 419 = .ok (.iadd, 1) := by decide +kernel
theorem dL_law_420 : decode cL_law 420 = .ok (.iaload, 1) := by decide +kernel
theorem dL_law_421 : decode cL_law 421 = .ok (.aload_n 0, 1) := by decide +kernel
theorem dL_law_422 : decode cL_law 422 = .ok (.iload_n 3, 1) := by decide +kernel
theorem dL_law_423 : decode cL_law 423 = .ok (.iconst 2, 1) := by decide +kernel
theorem dL_law_424 : decode cL_law 424 = .ok (.iadd, 1) := by decide +kernel
theorem dL_law_425 : decode cL_law 425 = .ok (.iaload, 1) := by decide +kernel
theorem dL_law_426 : decode cL_law 426 = .ok (.invokevirtual 49, 3) := by decide +kernel
theorem dL_law_429 : decode cL_law 429 = .ok (.if_icmp .eq 117, 3) := by decide +kernel
theorem dL_law_432 : decode cL_law 432 = .ok (.iconst 0, 1) := by decide +kernel
theorem dL_law_433 : decode cL_law 433 = .ok (.ireturn, 1) := by decide +kernel
theorem dL_law_434 : decode cL_law 434 = .ok (.aload_n 1, 1) := by decide +kernel
theorem dL_law_435 : decode cL_law 435 = .ok (.aload_n 0, 1) := by decide +kernel
theorem dL_law_436 : decode cL_law 436 = .ok (.iload_n 3, 1) := by decide +kernel
theorem dL_law_437 : decode cL_law 437 = .ok (.iconst 1, 1) := by decide +kernel
theorem dL_law_438 : decode cL_law 438 = .ok (.iadd, 1) := by decide +kernel
theorem dL_law_439 : decode cL_law 439 = .ok (.iaload, 1) := by decide +kernel
theorem dL_law_440 : decode cL_law 440 = .ok (.aload_n 0, 1) := by decide +kernel
theorem dL_law_441 : decode cL_law 441 = .ok (.iload_n 3, 1) := by decide +kernel
theorem dL_law_442 : decode cL_law 442 = .ok (.iconst 2, 1) := by decide +kernel
theorem dL_law_443 : decode cL_law 443 = .ok (.iadd, 1) := by decide +kernel
theorem dL_law_444 : decode cL_law 444 = .ok (.iaload, 1) := by decide +kernel
theorem dL_law_445 : decode cL_law 445 = .ok (.invokevirtual 50, 3) := by decide +kernel
theorem dL_law_448 : decode cL_law 448 = .ok (.aload_n 2, 1) := by decide +kernel
theorem dL_law_449 : decode cL_law 449 = .ok (.aload_n 0, 1) := by decide +kernel
theorem dL_law_450 : decode cL_law 450 = .ok (.iload_n 3, 1) := by decide +kernel
theorem dL_law_451 : decode cL_law 451 = .ok (.iconst 1, 1) := by decide +kernel
theorem dL_law_452 : decode cL_law 452 = .ok (.iadd, 1) := by decide +kernel
theorem dL_law_453 : decode cL_law 453 = .ok (.iaload, 1) := by decide +kernel
theorem dL_law_454 : decode cL_law 454 = .ok (.aload_n 0, 1) := by decide +kernel
theorem dL_law_455 : decode cL_law 455 = .ok (.iload_n 3, 1) := by decide +kernel
theorem dL_law_456 : decode cL_law 456 = .ok (.iconst 2, 1) := by decide +kernel
theorem dL_law_457 : decode cL_law 457 = .ok (.iadd, 1) := by decide +kernel
theorem dL_law_458 : decode cL_law 458 = .ok (.iaload, 1) := by decide +kernel
theorem dL_law_459 : decode cL_law 459 = .ok (.invokevirtual 53, 3) := by decide +kernel
theorem dL_law_462 : decode cL_law 462 = .ok (.if_icmp .eq 84, 3) := by decide +kernel
theorem dL_law_465 : decode cL_law 465 = .ok (.iconst 0, 1) := by decide +kernel
theorem dL_law_466 : decode cL_law 466 = .ok (.ireturn, 1) := by decide +kernel
theorem dL_law_467 : decode cL_law 467 = .ok (.aload_n 1, 1) := by decide +kernel
theorem dL_law_468 : decode cL_law 468 = .ok (.aload_n 0, 1) := by decide +kernel
theorem dL_law_469 : decode cL_law 469 = .ok (.iload_n 3, 1) := by decide +kernel
theorem dL_law_470 : decode cL_law 470 = .ok (.iconst 1, 1) := by decide +kernel
theorem dL_law_471 : decode cL_law 471 = .ok (.iadd, 1) := by decide +kernel
theorem dL_law_472 : decode cL_law 472 = .ok (.iaload, 1) := by decide +kernel
theorem dL_law_473 : decode cL_law 473 = .ok (.aload_n 0, 1) := by decide +kernel
theorem dL_law_474 : decode cL_law 474 = .ok (.iload_n 3, 1) := by decide +kernel
theorem dL_law_475 : decode cL_law 475 = .ok (.iconst 2, 1) := by decide +kernel
theorem dL_law_476 : decode cL_law 476 = .ok (.iadd, 1) := by decide +kernel
theorem dL_law_477 : decode cL_law 477 = .ok (.iaload, 1) := by decide +kernel
theorem dL_law_478 : decode cL_law 478 = .ok (.invokevirtual 54, 3) := by decide +kernel
theorem dL_law_481 : decode cL_law 481 = .ok (.aload_n 2, 1) := by decide +kernel
theorem dL_law_482 : decode cL_law 482 = .ok (.aload_n 0, 1) := by decide +kernel
theorem dL_law_483 : decode cL_law 483 = .ok (.iload_n 3, 1) := by decide +kernel
theorem dL_law_484 : decode cL_law 484 = .ok (.iconst 1, 1) := by decide +kernel
theorem dL_law_485 : decode cL_law 485 = .ok (.iadd, 1) := by decide +kernel
theorem dL_law_486 : decode cL_law 486 = .ok (.iaload, 1) := by decide +kernel
theorem dL_law_487 : decode cL_law 487 = .ok (.aload_n 0, 1) := by decide +kernel
theorem dL_law_488 : decode cL_law 488 = .ok (.iload_n 3, 1) := by decide +kernel
theorem dL_law_489 : decode cL_law 489 = .ok (.iconst 2, 1) := by decide +kernel
theorem dL_law_490 : decode cL_law 490 = .ok (.iadd, 1) := by decide +kernel
theorem dL_law_491 : decode cL_law 491 = .ok (.iaload, 1) := by decide +kernel
theorem dL_law_492 : decode cL_law 492 = .ok (.invokevirtual 58, 3) := by decide +kernel
theorem dL_law_495 : decode cL_law 495 = .ok (.if_icmp .eq 51, 3) := by decide +kernel
theorem dL_law_498 : decode cL_law 498 = .ok (.iconst 0, 1) := by decide +kernel
theorem dL_law_499 : decode cL_law 499 = .ok (.ireturn, 1) := by decide +kernel
theorem dL_law_500 : decode cL_law 500 = .ok (.aload_n 1, 1) := by decide +kernel
theorem dL_law_501 : decode cL_law 501 = .ok (.aload_n 0, 1) := by decide +kernel
theorem dL_law_502 : decode cL_law 502 = .ok (.iload_n 3, 1) := by decide +kernel
theorem dL_law_503 : decode cL_law 503 = .ok (.iconst 1, 1) := by decide +kernel
theorem dL_law_504 : decode cL_law 504 = .ok (.iadd, 1) := by decide +kernel
theorem dL_law_505 : decode cL_law 505 = .ok (.iaload, 1) := by decide +kernel
theorem dL_law_506 : decode cL_law 506 = .ok (.invokevirtual 59, 3) := by decide +kernel
theorem dL_law_509 : decode cL_law 509 = .ok (.aload_n 2, 1) := by decide +kernel
theorem dL_law_510 : decode cL_law 510 = .ok (.aload_n 0, 1) := by decide +kernel
theorem dL_law_511 : decode cL_law 511 = .ok (.iload_n 3, 1) := by decide +kernel
theorem dL_law_512 : decode cL_law 512 = .ok (.iconst 1, 1) := by decide +kernel
theorem dL_law_513 : decode cL_law 513 = .ok (.iadd, 1) := by decide +kernel
theorem dL_law_514 : decode cL_law 514 = .ok (.iaload, 1) := by decide +kernel
theorem dL_law_515 : decode cL_law 515 = .ok (.invokevirtual 62, 3) := by decide +kernel
theorem dL_law_518 : decode cL_law 518 = .ok (.if_icmp .eq 28, 3) := by decide +kernel
theorem dL_law_521 : decode cL_law 521 = .ok (.iconst 0, 1) := by decide +kernel
theorem dL_law_522 : decode cL_law 522 = .ok (.ireturn, 1) := by decide +kernel
theorem dL_law_523 : decode cL_law 523 = .ok (.aload_n 1, 1) := by decide +kernel
theorem dL_law_524 : decode cL_law 524 = .ok (.aload_n 0, 1) := by decide +kernel
theorem dL_law_525 : decode cL_law 525 = .ok (.iload_n 3, 1) := by decide +kernel
theorem dL_law_526 : decode cL_law 526 = .ok (.iconst 1, 1) := by decide +kernel
theorem dL_law_527 : decode cL_law 527 = .ok (.iadd, 1) := by decide +kernel
theorem dL_law_528 : decode cL_law 528 = .ok (.iaload, 1) := by decide +kernel
theorem dL_law_529 : decode cL_law 529 = .ok (.invokevirtual 63, 3) := by decide +kernel
theorem dL_law_532 : decode cL_law 532 = .ok (.aload_n 2, 1) := by decide +kernel
theorem dL_law_533 : decode cL_law 533 = .ok (.aload_n 0, 1) := by decide +kernel
theorem dL_law_534 : decode cL_law 534 = .ok (.iload_n 3, 1) := by decide +kernel
theorem dL_law_535 : decode cL_law 535 = .ok (.iconst 1, 1) := by decide +kernel
theorem dL_law_536 : decode cL_law 536 = .ok (.iadd, 1) := by decide +kernel
theorem dL_law_537 : decode cL_law 537 = .ok (.iaload, 1) := by decide +kernel
theorem dL_law_538 : decode cL_law 538 = .ok (.invokevirtual 66, 3) := by decide +kernel
theorem dL_law_541 : decode cL_law 541 = .ok (.if_icmp .eq 5, 3) := by decide +kernel
theorem dL_law_544 : decode cL_law 544 = .ok (.iconst 0, 1) := by decide +kernel
theorem dL_law_545 : decode cL_law 545 = .ok (.ireturn, 1) := by decide +kernel
theorem dL_law_546 : decode cL_law 546 = .ok (.iinc 3 5, 3) := by decide +kernel
theorem dL_law_549 : decode cL_law 549 = .ok (.goto (-531), 3) := by decide +kernel
theorem dL_law_552 : decode cL_law 552 = .ok (.iconst 1, 1) := by decide +kernel
theorem dL_law_553 : decode cL_law 553 = .ok (.ireturn, 1) := by decide +kernel
abbrev vwCl : List vw_C := [(RX0, TX0, 10), (RX1, TX1, 11)]
end
section
-- ===== the pure state: TIME, GONE, DEAF, FORWARDS (router, source), STRAIGHT, DISTANCE (by cell), kept claim, kept until (by cell), the row's claims, how many =====
abbrev AS : Type := Nat × (Nat → Bool) × (Nat → Bool) × (Nat → Nat → Bool) × (Nat → Bool) × (Nat → Nat) × (Nat → Nat) × (Nat → Nat) × (Nat → Nat) × Nat
def sT (S : AS) : Nat := S.1
def sG (S : AS) : Nat → Bool := S.2.1
def sD (S : AS) : Nat → Bool := S.2.2.1
def sF (S : AS) : Nat → Nat → Bool := S.2.2.2.1
def sS (S : AS) : Nat → Bool := S.2.2.2.2.1
def sI (S : AS) : Nat → Nat := S.2.2.2.2.2.1
def sC (S : AS) : Nat → Nat := S.2.2.2.2.2.2.1
def sU (S : AS) : Nat → Nat := S.2.2.2.2.2.2.2.1
def sR (S : AS) : Nat → Nat := S.2.2.2.2.2.2.2.2.1
def sN (S : AS) : Nat := S.2.2.2.2.2.2.2.2.2
def uT (S : AS) (v : Nat) : AS := (v, S.2)
def uG (S : AS) (v : Nat → Bool) : AS := (sT S, v, S.2.2)
def uD (S : AS) (v : Nat → Bool) : AS := (sT S, sG S, v, S.2.2.2)
def uF (S : AS) (v : Nat → Nat → Bool) : AS := (sT S, sG S, sD S, v, S.2.2.2.2)
def uS (S : AS) (v : Nat → Bool) : AS := (sT S, sG S, sD S, sF S, v, S.2.2.2.2.2)
def uI (S : AS) (v : Nat → Nat) : AS := (sT S, sG S, sD S, sF S, sS S, v, S.2.2.2.2.2.2)
def uC (S : AS) (v : Nat → Nat) : AS := (sT S, sG S, sD S, sF S, sS S, sI S, v, S.2.2.2.2.2.2.2)
def uU (S : AS) (v : Nat → Nat) : AS := (sT S, sG S, sD S, sF S, sS S, sI S, sC S, v, S.2.2.2.2.2.2.2.2)
def uR (S : AS) (v : Nat → Nat) : AS := (sT S, sG S, sD S, sF S, sS S, sI S, sC S, sU S, v, sN S)
def uN (S : AS) (v : Nat) : AS := (sT S, sG S, sD S, sF S, sS S, sI S, sC S, sU S, sR S, v)
def upN (f : Nat → Nat) (k v : Nat) : Nat → Nat := fun j => if j = k then v else f j
def upB (f : Nat → Bool) (k : Nat) (v : Bool) : Nat → Bool := fun j => if j = k then v else f j
def upF (f : Nat → Nat → Bool) (r s : Nat) (v : Bool) : Nat → Nat → Bool := fun i j => if i = r ∧ j = s then v else f i j
def bI (b : Bool) : Int32 := if b then 1 else 0
/-- the bits of the first k -/
def bmk (f : Nat → Bool) : Nat → Nat
  | 0 => 0
  | k + 1 => bmk f k + (if f k then 2 ^ k else 0)
def bm (f : Nat → Bool) : Nat := bmk f 10
/-- a cell's own claim -/
def pO (S : AS) (c : Nat) : Nat := (if sS S c then 0 else 1000000) + 100 * sI S c + c / 16
def pB (a b : Nat) : Bool := decide (a / 100 < b / 100) || (decide (a / 100 = b / 100) && decide (b % 100 < a % 100))
def pK (S : AS) (c : Nat) : Bool := decide (sT S < sU S c) && !(sG S (sC S c % 100))
def pL (S : AS) (c : Nat) : Bool := pK S c && pB (sC S c) (pO S c)
def pS (S : AS) (r s : Nat) : Bool := !(sG S r) && (sF S r s && !(pL S (16 * r + s)))
def pH (S : AS) (r : Nat) : Bool := !(sG S r) && !(sD S r)
def pSay (S : AS) (X : Nat) : AS := uN (uR S (upN (sR S) (sN S) X)) (sN S + 1)
def pKeep (S : AS) (c h : Nat) : AS := if (!(pK S c) || (pB h (sC S c) || decide (h % 100 = sC S c % 100))) then uU (uC S (upN (sC S) c h)) (upN (sU S) c (sT S + 60)) else S
def pF1 (S : AS) (r s q : Nat) : AS := if (!(decide (q = r)) && (pH S q && pS S q s)) then pSay S (pO S (16 * q + s)) else S
def pFirst (S : AS) (r s : Nat) : Nat → AS
  | 0 => S
  | q + 1 => pF1 (pFirst S r s q) r s q
def pH2 (S : AS) (s h q : Nat) : AS := if (pS S q s && pB (pO S (16 * q + s)) h) then pSay S (pO S (16 * q + s)) else S
def pH1 (S : AS) (s h q : Nat) : AS := if (!(decide (q = h % 100)) && pH S q) then pH2 (pKeep S (16 * q + s) h) s h q else S
def pHear (S : AS) (s h : Nat) : Nat → AS
  | 0 => S
  | q + 1 => pH1 (pHear S s h q) s h q
def pRun (s : Nat) : Nat → Nat → AS → AS
  | 0, _, S => S
  | f + 1, k, S => if k < sN S then pRun s f (k + 1) (pHear S s (sR S k) 10) else S
def pData (S : AS) (r s : Nat) : AS := pRun s 1024 0 (pFirst (uN S 0) r s 10)
/-- what holds between the calls -/
def iv (S : AS) : Prop := sT S ≤ 100000 ∧ (∀ c, sI S c ≤ 9999) ∧ (∀ c, sC S c % 100 < 10 ∧ sC S c ≤ 1999909) ∧ (∀ c, sU S c ≤ 100060) ∧ sN S ≤ 1023 ∧ (∀ k, sR S k ≤ 1999909)
-- ===== the worlds =====
abbrev wB (ad : Nat → Nat) (ck : Nat → ClassId) (S : AS) (a : Nat) : va_W := [(ad 0, .inr (0, [.int (nI (sT S)), .int (nI (bm (fun r => !(sG S r)))), .int (nI (bm (sD S))), .int (nI a), .ref (ad 1), .ref (ad 2), .ref (ad 3), .ref (ad 4), .ref (ad 5), .int (nI (sN S))])),
  (ad 1, .inl (ck 1, 16, .inl (fun c => nI (bm (fun r => sF S r c))))), (ad 2, .inl (ck 2, 160, .inl (fun c => nI (pO S c)))), (ad 3, .inl (ck 3, 160, .inl (fun c => nI (sC S c)))), (ad 4, .inl (ck 4, 160, .inl (fun c => nI (sU S c)))), (ad 5, .inl (ck 5, 1023, .inl (fun c => nI (sR S c % 100))))]
abbrev tyB (ck : Nat → ClassId) : List (ClassId × FieldType) := [(ck 1, .int), (ck 2, .int), (ck 3, .int), (ck 4, .int), (ck 5, .int)]
def aB (ad : Nat → Nat) : Nat → Prop := fun q => ∃ i, i < 6 ∧ q = ad i
/-- the reference's kept claim: -1 while none was ever kept -/
def kM (S : AS) (c : Nat) : Int32 := if sU S c = 0 then -1 else nI (sC S c)
abbrev wM (ad : Nat → Nat) (ck : Nat → ClassId) (S : AS) (a : Nat) : va_W := [(ad 0, .inr (1, [.int (nI (sT S)), .int (nI a), .ref (ad 1), .ref (ad 2), .ref (ad 3), .ref (ad 4), .ref (ad 5), .ref (ad 6), .ref (ad 7), .ref (ad 8), .int (nI (sN S))])),
  (ad 1, .inl (ck 1, 10, .inl (fun c => bI (sG S c)))), (ad 2, .inl (ck 2, 10, .inl (fun c => bI (sD S c)))), (ad 3, .inl (ck 3, 160, .inl (fun c => bI (sF S (c / 16) (c % 16))))), (ad 4, .inl (ck 4, 160, .inl (fun c => bI (sS S c)))), (ad 5, .inl (ck 5, 160, .inl (fun c => nI (sI S c)))), (ad 6, .inl (ck 6, 160, .inl (fun c => kM S c))), (ad 7, .inl (ck 7, 160, .inl (fun c => nI (sU S c)))), (ad 8, .inl (ck 8, 1024, .inl (fun c => nI (sR S c))))]
abbrev tyM (ck : Nat → ClassId) : List (ClassId × FieldType) := [(ck 1, .boolean), (ck 2, .boolean), (ck 3, .boolean), (ck 4, .boolean), (ck 5, .int), (ck 6, .int), (ck 7, .int), (ck 8, .int)]
def aM (ad : Nat → Nat) : Nat → Prop := fun q => ∃ i, i < 9 ∧ q = ad i
/-- the addresses are apart -/
def apt (n : Nat) (ad : Nat → Nat) : Prop := ∀ i j, i < n → j < n → ad i = ad j → i = j
theorem dB {ad : Nat → Nat} (h : apt 6 ad) (ck : Nat → ClassId) (S : AS) (a : Nat) : va_D (aB ad) (wB ad ck S a) := by
  have key : ∀ (k : Nat) (q : Nat × va_E), (wB ad ck S a)[k]? = some q → k < 6 ∧ q.1 = ad k := by
    intro k q hk
    match k, hk with
    | 0, hk => cases hk; exact ⟨by decide, rfl⟩
    | 1, hk => cases hk; exact ⟨by decide, rfl⟩
    | 2, hk => cases hk; exact ⟨by decide, rfl⟩
    | 3, hk => cases hk; exact ⟨by decide, rfl⟩
    | 4, hk => cases hk; exact ⟨by decide, rfl⟩
    | 5, hk => cases hk; exact ⟨by decide, rfl⟩
    | k + 6, hk => simp at hk
  refine ⟨fun i j p q hi hj e => ?_, fun k q hk => ?_⟩
  · obtain ⟨h1, e1⟩ := key i p hi
    obtain ⟨h2, e2⟩ := key j q hj
    exact h i j h1 h2 (by rw [← e1, ← e2, e])
  · obtain ⟨h1, e1⟩ := key k q hk
    exact ⟨k, h1, e1⟩
theorem dM {ad : Nat → Nat} (h : apt 9 ad) (ck : Nat → ClassId) (S : AS) (a : Nat) : va_D (aM ad) (wM ad ck S a) := by
  have key : ∀ (k : Nat) (q : Nat × va_E), (wM ad ck S a)[k]? = some q → k < 9 ∧ q.1 = ad k := by
    intro k q hk
    match k, hk with
    | 0, hk => cases hk; exact ⟨by decide, rfl⟩
    | 1, hk => cases hk; exact ⟨by decide, rfl⟩
    | 2, hk => cases hk; exact ⟨by decide, rfl⟩
    | 3, hk => cases hk; exact ⟨by decide, rfl⟩
    | 4, hk => cases hk; exact ⟨by decide, rfl⟩
    | 5, hk => cases hk; exact ⟨by decide, rfl⟩
    | 6, hk => cases hk; exact ⟨by decide, rfl⟩
    | 7, hk => cases hk; exact ⟨by decide, rfl⟩
    | 8, hk => cases hk; exact ⟨by decide, rfl⟩
    | k + 9, hk => simp at hk
  refine ⟨fun i j p q hi hj e => ?_, fun k q hk => ?_⟩
  · obtain ⟨h1, e1⟩ := key i p hi
    obtain ⟨h2, e2⟩ := key j q hj
    exact h i j h1 h2 (by rw [← e1, ← e2, e])
  · obtain ⟨h1, e1⟩ := key k q hk
    exact ⟨k, h1, e1⟩
-- ===== words on numbers =====
theorem bI_eq0 (b : Bool) : bI b = 0 ↔ b = false := by cases b <;> decide
theorem bI_nar (b : Bool) : vp_nar .boolean (bI b) = bI b := by cases b <;> decide
theorem bI_narrow (b : Bool) : narrow .boolean (.int (bI b)) = .int (bI b) := by cases b <;> decide
theorem nI_m1 {n : Nat} (h : n < 2147483648) : ¬ nI n = -1 := by
  intro e
  have h1 := nI_toInt (n := n) (by simpa using h)
  rw [e] at h1
  have h2 : ((-1 : Int32)).toInt = -1 := by decide
  omega
def inR (n : Nat) (x : Int32) : Bool := !(decide (x < 0)) && decide (x < nI n)
theorem inR_t {n : Nat} (hn : n < 2147483648) {x : Int32} (h : inR n x = true) : ∃ r : Nat, r < n ∧ x = nI r := by
  simp [inR] at h
  obtain ⟨h1, h2⟩ := h
  obtain ⟨j, hj, rfl⟩ := nI_of (Int32.not_lt.mpr h1)
  exact ⟨j, (nI_ltI hj (by simpa using hn)).mp h2, rfl⟩
theorem inR_n {n r : Nat} (hn : n < 2147483648) (h : r < n) : inR n (nI r) = true := by
  have h1 : ¬ nI r < 0 := nI_pos (by omega)
  have h2 : nI r < nI n := nI_lt h (by simpa using hn)
  simp [inR, h2]
  exact Int32.not_lt.mp h1
-- ===== rows of the walk over nI =====
section VX
variable {p : Program} {l : Launch} {e : Env} {R : Room} {s : State} {m : MethodId} {args : Array Value} {below : List Frame} {meth : Method} {c : Code} {H : Heap} {locs : List Loc} {cells slots : Nat} {Q : State → Prop}
variable {cc : ByteArray} {pc : Nat} {ls : Array Slot} {rest : List Value} {D : va_G} {cl : List vw_C} {A : Nat → Prop} {a : Nat} {tys : List (ClassId × FieldType)} {ws : va_W} {H0 : Heap}
theorem xx_add (hexec : p.tables.exec = Jvm.exec) (hb : c.code = cc) {x y : Nat} (hdg : decode cc pc = .ok (.iadd, 1)) (k : W p l e R s m args below meth c H locs cells slots Q (F0 m (pc + 1) ls (.int (nI (x + y)) :: rest))) : W p l e R s m args below meth c H locs cells slots Q (F0 m pc ls (.int (nI y) :: .int (nI x) :: rest)) := lv_iadd hexec hb hdg (by rw [nI_add]; exact k)
theorem xx_mul (hexec : p.tables.exec = Jvm.exec) (hb : c.code = cc) {x y : Nat} (hdg : decode cc pc = .ok (.imul, 1)) (k : W p l e R s m args below meth c H locs cells slots Q (F0 m (pc + 1) ls (.int (nI (x * y)) :: rest))) : W p l e R s m args below meth c H locs cells slots Q (F0 m pc ls (.int (nI y) :: .int (nI x) :: rest)) := lv_imul hexec hb hdg (by rw [pk_mul]; exact k)
theorem xx_div (hexec : p.tables.exec = Jvm.exec) (hb : c.code = cc) {x y : Nat} (hdg : decode cc pc = .ok (.idiv, 1)) (hx : x < 2147483648) (h0 : 0 < y) (hy : y < 2147483648) (k : W p l e R s m args below meth c H locs cells slots Q (F0 m (pc + 1) ls (.int (nI (x / y)) :: rest))) : W p l e R s m args below meth c H locs cells slots Q (F0 m pc ls (.int (nI y) :: .int (nI x) :: rest)) := lv_idiv hexec hb hdg (nI_ne0 h0 (by simpa using hy)) (by rw [pk_div (by simpa using hx) h0 (by simpa using hy)]; exact k)
theorem xx_rem (hexec : p.tables.exec = Jvm.exec) (hb : c.code = cc) {x y : Nat} (hdg : decode cc pc = .ok (.irem, 1)) (hx : x < 2147483648) (h0 : 0 < y) (hy : y < 2147483648) (k : W p l e R s m args below meth c H locs cells slots Q (F0 m (pc + 1) ls (.int (nI (x % y)) :: rest))) : W p l e R s m args below meth c H locs cells slots Q (F0 m pc ls (.int (nI y) :: .int (nI x) :: rest)) := lv_irem hexec hb hdg (nI_ne0 h0 (by simpa using hy)) (by rw [pk_rem (by simpa using hx) h0 (by simpa using hy)]; exact k)
theorem xx_ge (hexec : p.tables.exec = Jvm.exec) (hb : c.code = cc) {x y : Nat} {off : Int} {tgt : Nat} (hdg : decode cc pc = .ok (.if_icmp .ge off, 3)) (ht : (pc : Int) + off = (tgt : Int)) (hx : x < 2147483648) (hy : y < 2147483648)
    (kt : y ≤ x → W p l e R s m args below meth c H locs cells slots Q (F0 m tgt ls rest)) (kf : x < y → W p l e R s m args below meth c H locs cells slots Q (F0 m (pc + 3) ls rest)) : W p l e R s m args below meth c H locs cells slots Q (F0 m pc ls (.int (nI y) :: .int (nI x) :: rest)) :=
  lv_icmp_ge hexec hb hdg ht (fun h => kt ((nI_leI (by simpa using hy) (by simpa using hx)).mp h)) (fun h => kf (Nat.lt_of_not_le (fun q => h ((nI_leI (by simpa using hy) (by simpa using hx)).mpr q))))
theorem xx_le (hexec : p.tables.exec = Jvm.exec) (hb : c.code = cc) {x y : Nat} {off : Int} {tgt : Nat} (hdg : decode cc pc = .ok (.if_icmp .le off, 3)) (ht : (pc : Int) + off = (tgt : Int)) (hx : x < 2147483648) (hy : y < 2147483648)
    (kt : x ≤ y → W p l e R s m args below meth c H locs cells slots Q (F0 m tgt ls rest)) (kf : y < x → W p l e R s m args below meth c H locs cells slots Q (F0 m (pc + 3) ls rest)) : W p l e R s m args below meth c H locs cells slots Q (F0 m pc ls (.int (nI y) :: .int (nI x) :: rest)) :=
  lv_icmp_le hexec hb hdg ht (fun h => kt ((nI_leI (by simpa using hx) (by simpa using hy)).mp h)) (fun h => kf (Nat.lt_of_not_le (fun q => h ((nI_leI (by simpa using hx) (by simpa using hy)).mpr q))))
theorem xx_lt (hexec : p.tables.exec = Jvm.exec) (hb : c.code = cc) {x y : Nat} {off : Int} {tgt : Nat} (hdg : decode cc pc = .ok (.if_icmp .lt off, 3)) (ht : (pc : Int) + off = (tgt : Int)) (hx : x < 2147483648) (hy : y < 2147483648)
    (kt : x < y → W p l e R s m args below meth c H locs cells slots Q (F0 m tgt ls rest)) (kf : y ≤ x → W p l e R s m args below meth c H locs cells slots Q (F0 m (pc + 3) ls rest)) : W p l e R s m args below meth c H locs cells slots Q (F0 m pc ls (.int (nI y) :: .int (nI x) :: rest)) :=
  lv_icmp_lt hexec hb hdg ht (fun h => kt ((nI_ltI (by simpa using hx) (by simpa using hy)).mp h)) (fun h => kf (Nat.le_of_not_lt (fun q => h ((nI_ltI (by simpa using hx) (by simpa using hy)).mpr q))))
theorem xx_eq (hexec : p.tables.exec = Jvm.exec) (hb : c.code = cc) {x y : Nat} {off : Int} {tgt : Nat} (hdg : decode cc pc = .ok (.if_icmp .eq off, 3)) (ht : (pc : Int) + off = (tgt : Int)) (hx : x < 2147483648) (hy : y < 2147483648)
    (kt : x = y → W p l e R s m args below meth c H locs cells slots Q (F0 m tgt ls rest)) (kf : ¬ x = y → W p l e R s m args below meth c H locs cells slots Q (F0 m (pc + 3) ls rest)) : W p l e R s m args below meth c H locs cells slots Q (F0 m pc ls (.int (nI y) :: .int (nI x) :: rest)) :=
  lv_icmp_eq hexec hb hdg ht (fun h => kt ((nI_eq (by simpa using hx) (by simpa using hy)).mp h)) (fun h => kf (fun q => h (by rw [q])))
theorem xx_ne (hexec : p.tables.exec = Jvm.exec) (hb : c.code = cc) {x y : Nat} {off : Int} {tgt : Nat} (hdg : decode cc pc = .ok (.if_icmp .ne off, 3)) (ht : (pc : Int) + off = (tgt : Int)) (hx : x < 2147483648) (hy : y < 2147483648)
    (kt : ¬ x = y → W p l e R s m args below meth c H locs cells slots Q (F0 m tgt ls rest)) (kf : x = y → W p l e R s m args below meth c H locs cells slots Q (F0 m (pc + 3) ls rest)) : W p l e R s m args below meth c H locs cells slots Q (F0 m pc ls (.int (nI y) :: .int (nI x) :: rest)) :=
  lv_icmp_ne hexec hb hdg ht (fun h => kt (fun q => h (by rw [q]))) (fun h => kf ((nI_eq (by simpa using hx) (by simpa using hy)).mp h))
theorem xx_if0 (hexec : p.tables.exec = Jvm.exec) (hb : c.code = cc) {b : Bool} {off : Int} {tgt : Nat} (hdg : decode cc pc = .ok (.ifCond .eq off, 3)) (ht : (pc : Int) + off = (tgt : Int))
    (kt : b = false → W p l e R s m args below meth c H locs cells slots Q (F0 m tgt ls rest)) (kf : b = true → W p l e R s m args below meth c H locs cells slots Q (F0 m (pc + 3) ls rest)) : W p l e R s m args below meth c H locs cells slots Q (F0 m pc ls (.int (bI b) :: rest)) :=
  lv_if_eq hexec hb hdg ht (fun h => kt ((bI_eq0 b).mp h)) (fun h => kf (by cases b with | true => rfl | false => exact absurd rfl h))
theorem xx_if1 (hexec : p.tables.exec = Jvm.exec) (hb : c.code = cc) {b : Bool} {off : Int} {tgt : Nat} (hdg : decode cc pc = .ok (.ifCond .ne off, 3)) (ht : (pc : Int) + off = (tgt : Int))
    (kt : b = true → W p l e R s m args below meth c H locs cells slots Q (F0 m tgt ls rest)) (kf : b = false → W p l e R s m args below meth c H locs cells slots Q (F0 m (pc + 3) ls rest)) : W p l e R s m args below meth c H locs cells slots Q (F0 m pc ls (.int (bI b) :: rest)) :=
  lv_if_ne hexec hb hdg ht (fun h => kt (by cases b with | true => rfl | false => exact absurd rfl h)) (fun h => kf ((bI_eq0 b).mp h))
theorem xx_ald (hexec : p.tables.exec = Jvm.exec) (hb : c.code = cc) (hK : va_K D cl tys s) (hP : va_P D cl ws H) (q0 t0 : Nat) {cA : ClassId} {n : Nat} (f : Nat → Int32) (ha : ws[q0]? = some (a, .inl (cA, n, .inl f))) (ht : tys[t0]? = some (cA, .int)) {j : Nat} (hj : j < n) (hn : n < 2147483648) (hdg : decode cc pc = .ok (.iaload, 1))
    (kk : W p l e R s m args below meth c H locs cells slots Q (F0 m (pc + 1) ls (.int (f j) :: rest))) : W p l e R s m args below meth c H locs cells slots Q (F0 m pc ls (.int (nI j) :: .ref a :: rest)) :=
  va_iald hexec hb hK hP q0 t0 ha ht (vp_in_nI hj (by simpa using hn)) hdg (by rw [nI_clamp (by omega)]; exact kk)
theorem xx_zld (hexec : p.tables.exec = Jvm.exec) (hb : c.code = cc) (hK : va_K D cl tys s) (hP : va_P D cl ws H) (q0 t0 : Nat) {cA : ClassId} {n : Nat} (f : Nat → Int32) (ha : ws[q0]? = some (a, .inl (cA, n, .inl f))) (ht : tys[t0]? = some (cA, .boolean)) {j : Nat} (hj : j < n) (hn : n < 2147483648) (hdg : decode cc pc = .ok (.baload, 1))
    (kk : W p l e R s m args below meth c H locs cells slots Q (F0 m (pc + 1) ls (.int (f j) :: rest))) : W p l e R s m args below meth c H locs cells slots Q (F0 m pc ls (.int (nI j) :: .ref a :: rest)) :=
  va_zald hexec hb hK hP q0 t0 ha ht (vp_in_nI hj (by simpa using hn)) hdg (by rw [nI_clamp (by omega)]; exact kk)
theorem xx_ast (hexec : p.tables.exec = Jvm.exec) (hb : c.code = cc) (hK : va_K D cl tys s) (hP : va_P D cl ws H) (hD : va_D A ws) (hS : va_S A H0 H locs) (q0 t0 : Nat) {cA : ClassId} {n : Nat} {f : Nat → Int32} (ha : ws[q0]? = some (a, .inl (cA, n, .inl f))) (ht : tys[t0]? = some (cA, .int)) {j : Nat} {x : Int32} (hj : j < n) (hn : n < 2147483648) (g : Nat → Int32) (hg : upd f j x = g) (hdg : decode cc pc = .ok (.iastore, 1))
    (kk : ∀ (H1 : Heap) (locs1 : List Loc), va_P D cl (ws.set q0 (a, .inl (cA, n, .inl g))) H1 → va_S A H0 H1 locs1 → W p l e R s m args below meth c H1 locs1 cells slots Q (F0 m (pc + 1) ls rest)) : W p l e R s m args below meth c H locs cells slots Q (F0 m pc ls (.int x :: .int (nI j) :: .ref a :: rest)) := by
  refine va_iast hexec hb hK hP hD hS q0 t0 ha ht (vp_in_nI hj (by simpa using hn)) hdg (fun H1 locs1 hP1 hD1 hS1 => ?_)
  rw [nI_clamp (by omega), hg] at hP1
  exact kk H1 locs1 hP1 hS1
theorem xx_zst (hexec : p.tables.exec = Jvm.exec) (hb : c.code = cc) (hK : va_K D cl tys s) (hP : va_P D cl ws H) (hD : va_D A ws) (hS : va_S A H0 H locs) (q0 t0 : Nat) {cA : ClassId} {n : Nat} {f : Nat → Int32} (ha : ws[q0]? = some (a, .inl (cA, n, .inl f))) (ht : tys[t0]? = some (cA, .boolean)) {j : Nat} {x : Bool} (hj : j < n) (hn : n < 2147483648) (g : Nat → Int32) (hg : upd f j (bI x) = g) (hdg : decode cc pc = .ok (.bastore, 1))
    (kk : ∀ (H1 : Heap) (locs1 : List Loc), va_P D cl (ws.set q0 (a, .inl (cA, n, .inl g))) H1 → va_S A H0 H1 locs1 → W p l e R s m args below meth c H1 locs1 cells slots Q (F0 m (pc + 1) ls rest)) : W p l e R s m args below meth c H locs cells slots Q (F0 m pc ls (.int (bI x) :: .int (nI j) :: .ref a :: rest)) := by
  refine va_zast hexec hb hK hP hD hS q0 t0 ha ht (vp_in_nI hj (by simpa using hn)) hdg (fun H1 locs1 hP1 hD1 hS1 => ?_)
  rw [nI_clamp (by omega), bI_nar, hg] at hP1
  exact kk H1 locs1 hP1 hS1
/-- the top by another name -/
theorem xx_top {x : Int32} (y : Int32) (h : x = y) (k : W p l e R s m args below meth c H locs cells slots Q (F0 m pc ls (.int y :: rest))) : W p l e R s m args below meth c H locs cells slots Q (F0 m pc ls (.int x :: rest)) := by rw [h]; exact k
/-- a method that changes its world: its answer, the world behind it, the rest stays -/
def QcM (v : Option Value) (P : Heap → Prop) (A : Nat → Prop) : Array Value → State → Outcome → State → Prop := fun _ st o t => o = .returned v ∧ P t.heap ∧ va_F A st t
theorem xx_callM {v : Option Value} {P : Heap → Prop} {A1 A0 : Nat → Prop} {st0 : List Value} {av : Array Value} (hr : CallRun p l e R s m args below meth c H locs cells slots 0 0 (F0 m pc ls st0) rest (QcM v P A1 av) A1) (hS : va_S A0 H0 H locs) (hA : ∀ q, A1 q → A0 q)
    (kk : ∀ (H1 : Heap) (locs1 : List Loc), P H1 → (∀ q : Nat, q < H.size → ¬ A1 q → H1[q]? = H[q]?) → va_S A0 H0 H1 locs1 → W p l e R s m args below meth c H1 locs1 cells slots Q (F0 m (pc + 3) ls (v.toList ++ rest))) : W p l e R s m args below meth c H locs cells slots Q (F0 m pc ls st0) := by
  intro T hT X
  obtain ⟨v', st₀, t, T', L, h0, X', hL, e1, ⟨hv, hp, hz, hk⟩, st⟩ := hr T hT X
  cases hv
  rw [h0] at hz hk
  obtain ⟨t2, a1, b1⟩ := kk T'.heap (locs ++ L) (by rw [e1]; exact hp) (fun q h1 h2 => by rw [e1]; exact hk q h1 h2)
    ⟨Nat.le_trans hS.1 (by rw [e1]; exact hz), fun q h1 h2 => by rw [e1, hk q (Nat.lt_of_lt_of_le h1 hS.1) (fun z => h2 (hA q z))]; exact hS.2.1 q h1 h2, fun q hq => by
      rcases List.mem_append.mp hq with h | h
      · exact hS.2.2 q h
      · exact hA _ (hL q h)⟩ T' rfl X'
  exact ⟨t2, st t2 a1, b1⟩
end VX
/-- the start of a method over a world -/
def PW (D : va_G) (w : va_W) (ty : List (ClassId × FieldType)) (av : List Value) : Array Value → State → Prop := fun v U => v = av.toArray ∧ va_P D vwCl w U.heap ∧ va_K D vwCl ty U
theorem PW_blind (D : va_G) (w : va_W) (ty : List (ClassId × FieldType)) (av : List Value) : FrameBlind (PW D w ty av) := fun a U g mk h => ⟨h.1, h.2.1, va_K.moved (u := U) (U := U.calling g mk a) (Vm.Alike.refl U.vm) h.2.2⟩
theorem PW_pre {s : State} {H : Heap} {D : va_G} {w : va_W} {ty : List (ClassId × FieldType)} {b ci : Nat} {q : vw_C} {fs : List Value} {As : List Value} (hK : va_K D vwCl ty s) (hP : va_P D vwCl w H) (hc : vwCl[ci]? = some q) (he : w[0]? = some (b, .inr (ci, fs))) : PreV s H q.1 b (PW D w ty (.ref b :: As)) As :=
  ⟨PW_blind D w ty _, va_recv hK hP hc he, fun U hU hW => ⟨rfl, by rw [hU]; exact hP, va_K.moved hW.alike hK⟩⟩
end
section
-- ===== bits =====
theorem bl_sl : ∀ n, n < 32 → ((nI n &&& 31).toBitVec.smod 32).toNat = n := by decide +kernel
theorem bl_and (a b : Nat) : nI a &&& nI b = nI (a &&& b) := by
  apply Int32.toBitVec_inj.1
  show BitVec.ofNat 32 a &&& BitVec.ofNat 32 b = BitVec.ofNat 32 (a &&& b)
  apply BitVec.eq_of_getLsbD_eq
  intro i hi
  simp [hi]
theorem bl_or (a b : Nat) : nI a ||| nI b = nI (a ||| b) := by
  apply Int32.toBitVec_inj.1
  show BitVec.ofNat 32 a ||| BitVec.ofNat 32 b = BitVec.ofNat 32 (a ||| b)
  apply BitVec.eq_of_getLsbD_eq
  intro i hi
  simp [hi]
theorem bl_sh : ∀ n, n < 10 → nI 1 <<< (nI n &&& 31) = nI (2 ^ n) := by decide +kernel
theorem bl_nsh : ∀ n, n < 10 → nI 1023 &&& ((nI 1 <<< (nI n &&& 31)) ^^^ (-1)) = nI (1023 - 2 ^ n) := by decide +kernel
theorem bl_bmk_lt (f : Nat → Bool) : ∀ k, bmk f k < 2 ^ k
  | 0 => by simp [bmk]
  | k + 1 => by
    have h := bl_bmk_lt f k
    rw [bmk, Nat.pow_succ]
    split <;> omega
theorem bl_test (f : Nat → Bool) : ∀ k j, (bmk f k).testBit j = (decide (j < k) && f j)
  | 0, j => by simp [bmk]
  | k + 1, j => by
    have h := bl_bmk_lt f k
    have ih := bl_test f k j
    have e : bmk f (k + 1) = 2 ^ k * (if f k then 1 else 0) + bmk f k := by
      rw [bmk]
      split <;> omega
    rw [e, Nat.testBit_two_pow_mul_add _ h]
    by_cases hj : j < k
    · rw [if_pos hj, ih]
      simp [hj, Nat.lt_succ_of_lt hj]
    · rw [if_neg hj]
      by_cases hk : j = k
      · subst hk
        cases f j <;> simp
      · have h1 : ¬ j < k + 1 := by omega
        obtain ⟨i, hi⟩ : ∃ i, j - k = i + 1 := ⟨j - k - 1, by omega⟩
        rw [hi]
        cases f k <;> simp [h1, Nat.testBit_succ]
theorem bm_lt (f : Nat → Bool) : bm f < 1024 := bl_bmk_lt f 10
theorem bm_test (f : Nat → Bool) (j : Nat) : (bm f).testBit j = (decide (j < 10) && f j) := bl_test f 10 j
theorem bm_congr {f g : Nat → Bool} (h : ∀ j, j < 10 → f j = g j) : bm f = bm g := by
  apply Nat.eq_of_testBit_eq
  intro j
  rw [bm_test, bm_test]
  by_cases hj : j < 10
  · simp [hj, h j hj]
  · simp [hj]
theorem bm_has (f : Nat → Bool) {r : Nat} (hr : r < 10) : ((nI (bm f) >>> (nI r &&& 31)) &&& nI 1) = 0 ↔ f r = false := by
  have hb := bm_lt f
  rw [pk_shrN (by omega) _ r (bl_sl r (by omega)), bl_and, ← nI_0, nI_eq (by exact Nat.lt_of_le_of_lt Nat.and_le_right (by decide)) (by decide)]
  have ht := bm_test f r
  rw [Nat.testBit_eq_decide_div_mod_eq] at ht
  rw [Nat.and_one_is_mod]
  simp [hr] at ht
  rw [← ht]
  simp
theorem bm_on (f : Nat → Bool) {r : Nat} (hr : r < 10) : nI (bm f) ||| (nI 1 <<< (nI r &&& 31)) = nI (bm (upB f r true)) := by
  rw [bl_sh r hr, bl_or]
  congr 1
  apply Nat.eq_of_testBit_eq
  intro j
  rw [Nat.testBit_or, bm_test, bm_test, Nat.testBit_two_pow, upB]
  by_cases hj : j = r
  · subst hj; simp [hr]
  · have : ¬ r = j := fun h => hj h.symm
    simp [hj, this]
theorem bm_off (f : Nat → Bool) {r : Nat} (hr : r < 10) : nI (bm f) &&& ((nI 1 <<< (nI r &&& 31)) ^^^ (-1)) = nI (bm (upB f r false)) := by
  have e : nI (bm f) = nI (bm f) &&& nI 1023 := by
    rw [bl_and]
    congr 1
    have := Nat.and_two_pow_sub_one_of_lt_two_pow (n := 10) (bm_lt f)
    simpa using this.symm
  rw [e, Int32.and_assoc, bl_nsh r hr, bl_and]
  congr 1
  apply Nat.eq_of_testBit_eq
  intro j
  have h2 : (1023 - 2 ^ r).testBit j = (decide (j < 10) && !(decide (j = r))) := by
    have : ∀ r, r < 10 → ∀ j, j < 10 → (1023 - 2 ^ r).testBit j = (decide (j < 10) && !(decide (j = r))) := by decide +kernel
    by_cases hj : j < 10
    · exact this r hr j hj
    · rw [Nat.testBit_lt_two_pow (Nat.lt_of_lt_of_le (show 1023 - 2 ^ r < 2 ^ 10 from Nat.lt_of_le_of_lt (Nat.sub_le _ _) (by decide)) (Nat.pow_le_pow_right (by decide) (by omega)))]
      simp [hj]
  rw [Nat.testBit_and, bm_test, bm_test, h2, upB]
  by_cases hj : j = r
  · subst hj; simp
  · simp [hj]
    intro h _
    exact h
-- ===== small words =====
theorem inR_mk {n : Nat} {x : Int32} (h1 : ¬ x < 0) (h2 : ¬ nI n ≤ x) : inR n x = true := by
  unfold inR
  rw [decide_eq_false h1, decide_eq_true (Int32.not_le.mp h2)]
  rfl
theorem inR_f1 {n : Nat} {x : Int32} (h : x < 0) : inR n x = false := by
  unfold inR
  rw [decide_eq_true h]
  rfl
theorem inR_f2 {n : Nat} {x : Int32} (h : nI n ≤ x) : inR n x = false := by
  unfold inR
  rw [decide_eq_false (Int32.not_lt.mpr h)]
  simp
theorem pB_t {x y : Nat} : pB x y = true ↔ (x / 100 < y / 100 ∨ (x / 100 = y / 100 ∧ y % 100 < x % 100)) := by simp [pB]
theorem pB_f {x y : Nat} : pB x y = false ↔ ¬ (x / 100 < y / 100 ∨ (x / 100 = y / 100 ∧ y % 100 < x % 100)) := by
  rw [← pB_t]; simp
theorem bI_t {b : Bool} (h : b = true) : bI b = nI 1 := by rw [h]; rfl
theorem bI_f {b : Bool} (h : b = false) : bI b = nI 0 := by rw [h]; rfl
theorem ro_i {x y : Int32} (h : x = y) : Outcome.returned (some (Value.int x)) = Outcome.returned (some (Value.int y)) := by rw [h]
end
section
set_option maxHeartbeats 4000000 in
set_option maxRecDepth 100000 in
theorem c0_isRouter (l : Launch) (x : Int32) : Met l yX0_isRouter wsX0_isRouter ({ frames := 0, cells := 0, slots := 0, locals := 0 }) (fun v _ => v = ([.int (x)] : List Value).toArray) (QcRead (bI (inR 10 x))) 0 0 (fun _ => False) := by
  refine Met.ofW (cc := cX0_isRouter) (maxL := 1) (ret := (some .boolean)) (by decide) rfl ?_
  intro p e s m args below meth c s₁ B hml hv
  obtain rfl := hv
  have hx := B.exec
  have hb := B.bytes
  have hr := B.returns
  have hts := atoms_spec (ws := wsX0_isRouter) B.pre
  have hown : s.vm.findClass RX0 = some m.cls := findClass_of_methodNamed B.named
  have hlocks := B.notSynchronized
  have hl := lv_entry ([.int (x)]) (n := 1) (Nat.le_of_ble_eq_true rfl)
  rw [lg_entry_eq]
  generalize (lg_sl ([.int (x)]) ++ List.replicate (1 - (lg_sl ([.int (x)])).length) Slot.unset).toArray = ls at hl ⊢
  have hl : lv_has ls 1 [(0, .int (x))] := hl
  refine lv_iload_n hx hb dX0_isRouter_0 rfl (lv_at hl 0 rfl) ?_
  refine lv_if_lt (tgt := 14) hx hb dX0_isRouter_1 (by decide) (fun h1 => ?_) (fun h1 => ?_)
  · skip
    refine lv_iconst (v := nI 0) hx hb dX0_isRouter_14 (by decide) ?_
    exact W.zret (v := (nI (0))) (ty := .boolean) hx hb hr (rfl) (fun t ht hW => ⟨ro_i (bI_f (inR_f1 h1)).symm, ht⟩) (fun _ h => absurd h List.not_mem_nil) dX0_isRouter_15
  · skip
    refine lv_iload_n hx hb dX0_isRouter_4 rfl (lv_at hl 0 rfl) ?_
    refine lv_bipush (v := nI 10) hx hb dX0_isRouter_5 (by decide) ?_
    refine lv_icmp_ge (tgt := 14) hx hb dX0_isRouter_7 (by decide) (fun h2 => ?_) (fun h2 => ?_)
    · skip
      refine lv_iconst (v := nI 0) hx hb dX0_isRouter_14 (by decide) ?_
      exact W.zret (v := (nI (0))) (ty := .boolean) hx hb hr (rfl) (fun t ht hW => ⟨ro_i (bI_f (inR_f2 h2)).symm, ht⟩) (fun _ h => absurd h List.not_mem_nil) dX0_isRouter_15
    · skip
      refine lv_iconst (v := nI 1) hx hb dX0_isRouter_10 (by decide) ?_
      refine lv_goto (tgt := 15) hx hb dX0_isRouter_11 (by decide) ?_
      exact W.zret (v := (nI (1))) (ty := .boolean) hx hb hr (rfl) (fun t ht hW => ⟨ro_i (bI_t (inR_mk h1 h2)).symm, ht⟩) (fun _ h => absurd h List.not_mem_nil) dX0_isRouter_15
set_option maxHeartbeats 4000000 in
set_option maxRecDepth 100000 in
theorem c0_isSource (l : Launch) (x : Int32) : Met l yX0_isSource wsX0_isSource ({ frames := 0, cells := 0, slots := 0, locals := 0 }) (fun v _ => v = ([.int (x)] : List Value).toArray) (QcRead (bI (inR 16 x))) 0 0 (fun _ => False) := by
  refine Met.ofW (cc := cX0_isSource) (maxL := 1) (ret := (some .boolean)) (by decide) rfl ?_
  intro p e s m args below meth c s₁ B hml hv
  obtain rfl := hv
  have hx := B.exec
  have hb := B.bytes
  have hr := B.returns
  have hts := atoms_spec (ws := wsX0_isSource) B.pre
  have hown : s.vm.findClass RX0 = some m.cls := findClass_of_methodNamed B.named
  have hlocks := B.notSynchronized
  have hl := lv_entry ([.int (x)]) (n := 1) (Nat.le_of_ble_eq_true rfl)
  rw [lg_entry_eq]
  generalize (lg_sl ([.int (x)]) ++ List.replicate (1 - (lg_sl ([.int (x)])).length) Slot.unset).toArray = ls at hl ⊢
  have hl : lv_has ls 1 [(0, .int (x))] := hl
  refine lv_iload_n hx hb dX0_isSource_0 rfl (lv_at hl 0 rfl) ?_
  refine lv_if_lt (tgt := 14) hx hb dX0_isSource_1 (by decide) (fun h1 => ?_) (fun h1 => ?_)
  · skip
    refine lv_iconst (v := nI 0) hx hb dX0_isSource_14 (by decide) ?_
    exact W.zret (v := (nI (0))) (ty := .boolean) hx hb hr (rfl) (fun t ht hW => ⟨ro_i (bI_f (inR_f1 h1)).symm, ht⟩) (fun _ h => absurd h List.not_mem_nil) dX0_isSource_15
  · skip
    refine lv_iload_n hx hb dX0_isSource_4 rfl (lv_at hl 0 rfl) ?_
    refine lv_bipush (v := nI 16) hx hb dX0_isSource_5 (by decide) ?_
    refine lv_icmp_ge (tgt := 14) hx hb dX0_isSource_7 (by decide) (fun h2 => ?_) (fun h2 => ?_)
    · skip
      refine lv_iconst (v := nI 0) hx hb dX0_isSource_14 (by decide) ?_
      exact W.zret (v := (nI (0))) (ty := .boolean) hx hb hr (rfl) (fun t ht hW => ⟨ro_i (bI_f (inR_f2 h2)).symm, ht⟩) (fun _ h => absurd h List.not_mem_nil) dX0_isSource_15
    · skip
      refine lv_iconst (v := nI 1) hx hb dX0_isSource_10 (by decide) ?_
      refine lv_goto (tgt := 15) hx hb dX0_isSource_11 (by decide) ?_
      exact W.zret (v := (nI (1))) (ty := .boolean) hx hb hr (rfl) (fun t ht hW => ⟨ro_i (bI_t (inR_mk h1 h2)).symm, ht⟩) (fun _ h => absurd h List.not_mem_nil) dX0_isSource_15
set_option maxHeartbeats 4000000 in
set_option maxRecDepth 100000 in
theorem c1_isRouter (l : Launch) (x : Int32) : Met l yX1_isRouter wsX1_isRouter ({ frames := 0, cells := 0, slots := 0, locals := 0 }) (fun v _ => v = ([.int (x)] : List Value).toArray) (QcRead (bI (inR 10 x))) 0 0 (fun _ => False) := by
  refine Met.ofW (cc := cX1_isRouter) (maxL := 1) (ret := (some .boolean)) (by decide) rfl ?_
  intro p e s m args below meth c s₁ B hml hv
  obtain rfl := hv
  have hx := B.exec
  have hb := B.bytes
  have hr := B.returns
  have hts := atoms_spec (ws := wsX1_isRouter) B.pre
  have hown : s.vm.findClass RX1 = some m.cls := findClass_of_methodNamed B.named
  have hlocks := B.notSynchronized
  have hl := lv_entry ([.int (x)]) (n := 1) (Nat.le_of_ble_eq_true rfl)
  rw [lg_entry_eq]
  generalize (lg_sl ([.int (x)]) ++ List.replicate (1 - (lg_sl ([.int (x)])).length) Slot.unset).toArray = ls at hl ⊢
  have hl : lv_has ls 1 [(0, .int (x))] := hl
  refine lv_iload_n hx hb dX1_isRouter_0 rfl (lv_at hl 0 rfl) ?_
  refine lv_if_lt (tgt := 14) hx hb dX1_isRouter_1 (by decide) (fun h1 => ?_) (fun h1 => ?_)
  · skip
    refine lv_iconst (v := nI 0) hx hb dX1_isRouter_14 (by decide) ?_
    exact W.zret (v := (nI (0))) (ty := .boolean) hx hb hr (rfl) (fun t ht hW => ⟨ro_i (bI_f (inR_f1 h1)).symm, ht⟩) (fun _ h => absurd h List.not_mem_nil) dX1_isRouter_15
  · skip
    refine lv_iload_n hx hb dX1_isRouter_4 rfl (lv_at hl 0 rfl) ?_
    refine lv_bipush (v := nI 10) hx hb dX1_isRouter_5 (by decide) ?_
    refine lv_icmp_ge (tgt := 14) hx hb dX1_isRouter_7 (by decide) (fun h2 => ?_) (fun h2 => ?_)
    · skip
      refine lv_iconst (v := nI 0) hx hb dX1_isRouter_14 (by decide) ?_
      exact W.zret (v := (nI (0))) (ty := .boolean) hx hb hr (rfl) (fun t ht hW => ⟨ro_i (bI_f (inR_f2 h2)).symm, ht⟩) (fun _ h => absurd h List.not_mem_nil) dX1_isRouter_15
    · skip
      refine lv_iconst (v := nI 1) hx hb dX1_isRouter_10 (by decide) ?_
      refine lv_goto (tgt := 15) hx hb dX1_isRouter_11 (by decide) ?_
      exact W.zret (v := (nI (1))) (ty := .boolean) hx hb hr (rfl) (fun t ht hW => ⟨ro_i (bI_t (inR_mk h1 h2)).symm, ht⟩) (fun _ h => absurd h List.not_mem_nil) dX1_isRouter_15
set_option maxHeartbeats 4000000 in
set_option maxRecDepth 100000 in
theorem c1_isPair (l : Launch) (x y : Int32) : Met l yX1_isPair wsX1_isPair ({ frames := 1, cells := 0, slots := 0, locals := 20 }) (fun v _ => v = ([.int (x), .int (y)] : List Value).toArray) (QcRead (bI (inR 10 x && inR 16 y))) 0 0 (fun _ => False) := by
  refine Met.ofW (cc := cX1_isPair) (maxL := 2) (ret := (some .boolean)) (by decide) rfl ?_
  intro p e s m args below meth c s₁ B hml hv
  obtain rfl := hv
  have hx := B.exec
  have hb := B.bytes
  have hr := B.returns
  have hts := atoms_spec (ws := wsX1_isPair) B.pre
  have hown : s.vm.findClass RX1 = some m.cls := findClass_of_methodNamed B.named
  have hlocks := B.notSynchronized
  have hl := lv_entry ([.int (x), .int (y)]) (n := 2) (Nat.le_of_ble_eq_true rfl)
  rw [lg_entry_eq]
  generalize (lg_sl ([.int (x), .int (y)]) ++ List.replicate (2 - (lg_sl ([.int (x), .int (y)])).length) Slot.unset).toArray = ls at hl ⊢
  have hl : lv_has ls 2 [(0, .int (x)), (1, .int (y))] := hl
  refine lv_iload_n hx hb dX1_isPair_0 rfl (lv_at hl 0 rfl) ?_
  refine W.callR (W.runS (As := [.int (x)]) (rest := []) ⟨hx, hb, hml, hown, hts⟩ (c1_isRouter l ((x))) (va_cwS 1 hts gX1_isPair_X1_isRouter rfl rfl rfl (by decide +kernel) ⟨Nat.le_of_ble_eq_true rfl, Nat.le_of_ble_eq_true rfl⟩) preEq rfl rfl hl.1 rfl (lv_room (Nat.le_of_ble_eq_true rfl)) dX1_isPair_1 ⟨Nat.zero_le _, Nat.zero_le _⟩) ?_
  refine W.eq (g2 := F0 m 4 ls [.int (bI (inR 10 ((x))))]) rfl ?_
  refine xx_if0 (tgt := 21) hx hb dX1_isPair_4 (by decide) (fun h1 => ?_) (fun h1 => ?_)
  · skip
    refine lv_iconst (v := nI 0) hx hb dX1_isPair_21 (by decide) ?_
    exact W.zret (v := (nI (0))) (ty := .boolean) hx hb hr (rfl) (fun t ht hW => ⟨ro_i (bI_f (by rw [h1]; rfl)).symm, ht⟩) (fun _ h => absurd h List.not_mem_nil) dX1_isPair_22
  · skip
    refine lv_iload_n hx hb dX1_isPair_7 rfl (lv_at hl 1 rfl) ?_
    refine lv_if_lt (tgt := 21) hx hb dX1_isPair_8 (by decide) (fun h2 => ?_) (fun h2 => ?_)
    · skip
      refine lv_iconst (v := nI 0) hx hb dX1_isPair_21 (by decide) ?_
      exact W.zret (v := (nI (0))) (ty := .boolean) hx hb hr (rfl) (fun t ht hW => ⟨ro_i (bI_f (by rw [inR_f1 h2, Bool.and_false])).symm, ht⟩) (fun _ h => absurd h List.not_mem_nil) dX1_isPair_22
    · skip
      refine lv_iload_n hx hb dX1_isPair_11 rfl (lv_at hl 1 rfl) ?_
      refine lv_bipush (v := nI 16) hx hb dX1_isPair_12 (by decide) ?_
      refine lv_icmp_ge (tgt := 21) hx hb dX1_isPair_14 (by decide) (fun h3 => ?_) (fun h3 => ?_)
      · skip
        refine lv_iconst (v := nI 0) hx hb dX1_isPair_21 (by decide) ?_
        exact W.zret (v := (nI (0))) (ty := .boolean) hx hb hr (rfl) (fun t ht hW => ⟨ro_i (bI_f (by rw [inR_f2 h3, Bool.and_false])).symm, ht⟩) (fun _ h => absurd h List.not_mem_nil) dX1_isPair_22
      · skip
        refine lv_iconst (v := nI 1) hx hb dX1_isPair_17 (by decide) ?_
        refine lv_goto (tgt := 22) hx hb dX1_isPair_18 (by decide) ?_
        exact W.zret (v := (nI (1))) (ty := .boolean) hx hb hr (rfl) (fun t ht hW => ⟨ro_i (bI_t (by rw [h1, inR_mk h2 h3]; rfl)).symm, ht⟩) (fun _ h => absurd h List.not_mem_nil) dX1_isPair_22
set_option maxHeartbeats 4000000 in
set_option maxRecDepth 100000 in
theorem c0_cellOf (l : Launch) (r z : Nat) : Met l yX0_cellOf wsX0_cellOf ({ frames := 0, cells := 0, slots := 0, locals := 0 }) (fun v _ => v = ([.int (nI (r)), .int (nI (z))] : List Value).toArray) (QcRead (nI (16 * r + z))) 0 0 (fun _ => False) := by
  refine Met.ofW (cc := cX0_cellOf) (maxL := 2) (ret := (some .int)) (by decide) rfl ?_
  intro p e s m args below meth c s₁ B hml hv
  obtain rfl := hv
  have hx := B.exec
  have hb := B.bytes
  have hr := B.returns
  have hts := atoms_spec (ws := wsX0_cellOf) B.pre
  have hown : s.vm.findClass RX0 = some m.cls := findClass_of_methodNamed B.named
  have hlocks := B.notSynchronized
  have hl := lv_entry ([.int (nI (r)), .int (nI (z))]) (n := 2) (Nat.le_of_ble_eq_true rfl)
  rw [lg_entry_eq]
  generalize (lg_sl ([.int (nI (r)), .int (nI (z))]) ++ List.replicate (2 - (lg_sl ([.int (nI (r)), .int (nI (z))])).length) Slot.unset).toArray = ls at hl ⊢
  have hl : lv_has ls 2 [(0, .int (nI (r))), (1, .int (nI (z)))] := hl
  refine lv_iload_n hx hb dX0_cellOf_0 rfl (lv_at hl 0 rfl) ?_
  refine lv_bipush (v := nI 16) hx hb dX0_cellOf_1 (by decide) ?_
  refine xx_mul hx hb dX0_cellOf_3 ?_
  refine lv_iload_n hx hb dX0_cellOf_4 rfl (lv_at hl 1 rfl) ?_
  refine xx_add hx hb dX0_cellOf_5 ?_
  exact W.iret (v := (nI ((r * 16) + z))) hx hb hr (fun t ht hW => ⟨ro_i (congrArg nI (by omega)), ht⟩) (fun _ h => absurd h List.not_mem_nil) dX0_cellOf_6
set_option maxHeartbeats 4000000 in
set_option maxRecDepth 100000 in
theorem c0_claimOf (l : Launch) (r : Nat) (b : Bool) (d : Nat) : Met l yX0_claimOf wsX0_claimOf ({ frames := 0, cells := 0, slots := 0, locals := 0 }) (fun v _ => v = ([.int (nI (r)), .int (bI (b)), .int (nI (d))] : List Value).toArray) (QcRead (nI ((if b then 0 else 1000000) + 100 * d + r))) 0 0 (fun _ => False) := by
  refine Met.ofW (cc := cX0_claimOf) (maxL := 3) (ret := (some .int)) (by decide) rfl ?_
  intro p e s m args below meth c s₁ B hml hv
  obtain rfl := hv
  have hx := B.exec
  have hb := B.bytes
  have hr := B.returns
  have hts := atoms_spec (ws := wsX0_claimOf) B.pre
  have hown : s.vm.findClass RX0 = some m.cls := findClass_of_methodNamed B.named
  have hlocks := B.notSynchronized
  have hl := lv_entry ([.int (nI (r)), .int (bI (b)), .int (nI (d))]) (n := 3) (Nat.le_of_ble_eq_true rfl)
  rw [lg_entry_eq]
  generalize (lg_sl ([.int (nI (r)), .int (bI (b)), .int (nI (d))]) ++ List.replicate (3 - (lg_sl ([.int (nI (r)), .int (bI (b)), .int (nI (d))])).length) Slot.unset).toArray = ls at hl ⊢
  have hl : lv_has ls 3 [(0, .int (nI (r))), (1, .int (bI (b))), (2, .int (nI (d)))] := hl
  refine lv_iload_n hx hb dX0_claimOf_0 rfl (lv_at hl 1 rfl) ?_
  refine xx_if0 (tgt := 8) hx hb dX0_claimOf_1 (by decide) (fun h1 => ?_) (fun h1 => ?_)
  · skip
    refine lv_ldc (own := RX0) (v := nI 1000000) hx hb hown (hts (.constant RX0 98 (1000000)) (by decide +kernel)) dX0_claimOf_8 ?_
    refine lv_iload_n hx hb dX0_claimOf_10 rfl (lv_at hl 2 rfl) ?_
    refine lv_bipush (v := nI 100) hx hb dX0_claimOf_11 (by decide) ?_
    refine xx_mul hx hb dX0_claimOf_13 ?_
    refine xx_add hx hb dX0_claimOf_14 ?_
    refine lv_iload_n hx hb dX0_claimOf_15 rfl (lv_at hl 0 rfl) ?_
    refine xx_add hx hb dX0_claimOf_16 ?_
    exact W.iret (v := (nI ((1000000 + (d * 100)) + r))) hx hb hr (fun t ht hW => ⟨ro_i (congrArg nI (by rw [h1]; simp; omega)), ht⟩) (fun _ h => absurd h List.not_mem_nil) dX0_claimOf_17
  · skip
    refine lv_iconst (v := nI 0) hx hb dX0_claimOf_4 (by decide) ?_
    refine lv_goto (tgt := 10) hx hb dX0_claimOf_5 (by decide) ?_
    refine lv_iload_n hx hb dX0_claimOf_10 rfl (lv_at hl 2 rfl) ?_
    refine lv_bipush (v := nI 100) hx hb dX0_claimOf_11 (by decide) ?_
    refine xx_mul hx hb dX0_claimOf_13 ?_
    refine xx_add hx hb dX0_claimOf_14 ?_
    refine lv_iload_n hx hb dX0_claimOf_15 rfl (lv_at hl 0 rfl) ?_
    refine xx_add hx hb dX0_claimOf_16 ?_
    exact W.iret (v := (nI ((0 + (d * 100)) + r))) hx hb hr (fun t ht hW => ⟨ro_i (congrArg nI (by rw [h1]; simp; omega)), ht⟩) (fun _ h => absurd h List.not_mem_nil) dX0_claimOf_17
set_option maxHeartbeats 4000000 in
set_option maxRecDepth 100000 in
theorem c0_routerOf (l : Launch) (x : Nat) (hb31 : x < 2147483648) : Met l yX0_routerOf wsX0_routerOf ({ frames := 0, cells := 0, slots := 0, locals := 0 }) (fun v _ => v = ([.int (nI (x))] : List Value).toArray) (QcRead (nI (x % 100))) 0 0 (fun _ => False) := by
  refine Met.ofW (cc := cX0_routerOf) (maxL := 1) (ret := (some .int)) (by decide) rfl ?_
  intro p e s m args below meth c s₁ B hml hv
  obtain rfl := hv
  have hx := B.exec
  have hb := B.bytes
  have hr := B.returns
  have hts := atoms_spec (ws := wsX0_routerOf) B.pre
  have hown : s.vm.findClass RX0 = some m.cls := findClass_of_methodNamed B.named
  have hlocks := B.notSynchronized
  have hl := lv_entry ([.int (nI (x))]) (n := 1) (Nat.le_of_ble_eq_true rfl)
  rw [lg_entry_eq]
  generalize (lg_sl ([.int (nI (x))]) ++ List.replicate (1 - (lg_sl ([.int (nI (x))])).length) Slot.unset).toArray = ls at hl ⊢
  have hl : lv_has ls 1 [(0, .int (nI (x)))] := hl
  refine lv_iload_n hx hb dX0_routerOf_0 rfl (lv_at hl 0 rfl) ?_
  refine lv_bipush (v := nI 100) hx hb dX0_routerOf_1 (by decide) ?_
  refine xx_rem hx hb dX0_routerOf_3 (by omega) (by decide) (by decide) ?_
  exact W.iret (v := (nI (x % 100))) hx hb hr (fun t ht hW => ⟨rfl, ht⟩) (fun _ h => absurd h List.not_mem_nil) dX0_routerOf_4
set_option maxHeartbeats 4000000 in
set_option maxRecDepth 100000 in
theorem c0_isBetter (l : Launch) (x y : Nat) (hx31 : x < 2147483648) (hy31 : y < 2147483648) : Met l yX0_isBetter wsX0_isBetter ({ frames := 1, cells := 0, slots := 0, locals := 20 }) (fun v _ => v = ([.int (nI (x)), .int (nI (y))] : List Value).toArray) (QcRead (bI (pB x y))) 0 0 (fun _ => False) := by
  refine Met.ofW (cc := cX0_isBetter) (maxL := 4) (ret := (some .boolean)) (by decide) rfl ?_
  intro p e s m args below meth c s₁ B hml hv
  obtain rfl := hv
  have hx := B.exec
  have hb := B.bytes
  have hr := B.returns
  have hts := atoms_spec (ws := wsX0_isBetter) B.pre
  have hown : s.vm.findClass RX0 = some m.cls := findClass_of_methodNamed B.named
  have hlocks := B.notSynchronized
  have hl := lv_entry ([.int (nI (x)), .int (nI (y))]) (n := 4) (Nat.le_of_ble_eq_true rfl)
  rw [lg_entry_eq]
  generalize (lg_sl ([.int (nI (x)), .int (nI (y))]) ++ List.replicate (4 - (lg_sl ([.int (nI (x)), .int (nI (y))])).length) Slot.unset).toArray = ls at hl ⊢
  have hl : lv_has ls 4 [(0, .int (nI (x))), (1, .int (nI (y)))] := hl
  refine lv_iload_n hx hb dX0_isBetter_0 rfl (lv_at hl 0 rfl) ?_
  refine lv_bipush (v := nI 100) hx hb dX0_isBetter_1 (by decide) ?_
  refine xx_div hx hb dX0_isBetter_3 (by omega) (by decide) (by decide) ?_
  refine lv_istore_n (lv' := [(2, .int (nI (x / 100))), (0, .int (nI (x))), (1, .int (nI (y)))]) hx hb dX0_isBetter_4 rfl hl (by decide) rfl (fun ls hl => ?_)
  refine lv_iload_n hx hb dX0_isBetter_5 rfl (lv_at hl 2 rfl) ?_
  refine lv_bipush (v := nI 100) hx hb dX0_isBetter_6 (by decide) ?_
  refine xx_div hx hb dX0_isBetter_8 (by omega) (by decide) (by decide) ?_
  refine lv_istore_n (lv' := [(3, .int (nI (y / 100))), (2, .int (nI (x / 100))), (0, .int (nI (x))), (1, .int (nI (y)))]) hx hb dX0_isBetter_9 rfl hl (by decide) rfl (fun ls hl => ?_)
  refine lv_iload_n hx hb dX0_isBetter_10 rfl (lv_at hl 1 rfl) ?_
  refine lv_iload_n hx hb dX0_isBetter_11 rfl (lv_at hl 0 rfl) ?_
  refine xx_eq (tgt := 26) hx hb dX0_isBetter_12 (by decide) (by omega) (by omega) (fun h1 => ?_) (fun h1 => ?_)
  · skip
    refine lv_iload_n hx hb dX0_isBetter_26 rfl (lv_at hl 2 rfl) ?_
    refine W.callR (W.runS (As := [.int (nI (x))]) (rest := []) ⟨hx, hb, hml, hown, hts⟩ (c0_routerOf l x (by omega)) (va_cwS 1 hts gX0_isBetter_X0_routerOf rfl rfl rfl (by decide +kernel) ⟨Nat.le_of_ble_eq_true rfl, Nat.le_of_ble_eq_true rfl⟩) preEq rfl rfl hl.1 rfl (lv_room (Nat.le_of_ble_eq_true rfl)) dX0_isBetter_27 ⟨Nat.zero_le _, Nat.zero_le _⟩) ?_
    refine W.eq (g2 := F0 m 30 ls [.int (nI (x % 100))]) rfl ?_
    refine lv_iload_n hx hb dX0_isBetter_30 rfl (lv_at hl 3 rfl) ?_
    refine W.callR (W.runS (As := [.int (nI (y))]) (rest := [.int (nI (x % 100))]) ⟨hx, hb, hml, hown, hts⟩ (c0_routerOf l y (by omega)) (va_cwS 1 hts gX0_isBetter_X0_routerOf rfl rfl rfl (by decide +kernel) ⟨Nat.le_of_ble_eq_true rfl, Nat.le_of_ble_eq_true rfl⟩) preEq rfl rfl hl.1 rfl (lv_room (Nat.le_of_ble_eq_true rfl)) dX0_isBetter_31 ⟨Nat.zero_le _, Nat.zero_le _⟩) ?_
    refine W.eq (g2 := F0 m 34 ls [.int (nI (y % 100)), .int (nI (x % 100))]) rfl ?_
    refine xx_le (tgt := 41) hx hb dX0_isBetter_34 (by decide) (by omega) (by omega) (fun h2 => ?_) (fun h2 => ?_)
    · skip
      refine lv_iconst (v := nI 0) hx hb dX0_isBetter_41 (by decide) ?_
      exact W.zret (v := (nI (0))) (ty := .boolean) hx hb hr (rfl) (fun t ht hW => ⟨ro_i (bI_f (pB_f.mpr (by omega))).symm, ht⟩) (fun _ h => absurd h List.not_mem_nil) dX0_isBetter_42
    · skip
      refine lv_iconst (v := nI 1) hx hb dX0_isBetter_37 (by decide) ?_
      refine lv_goto (tgt := 42) hx hb dX0_isBetter_38 (by decide) ?_
      exact W.zret (v := (nI (1))) (ty := .boolean) hx hb hr (rfl) (fun t ht hW => ⟨ro_i (bI_t (pB_t.mpr (by omega))).symm, ht⟩) (fun _ h => absurd h List.not_mem_nil) dX0_isBetter_42
  · skip
    refine lv_iload_n hx hb dX0_isBetter_15 rfl (lv_at hl 1 rfl) ?_
    refine lv_iload_n hx hb dX0_isBetter_16 rfl (lv_at hl 0 rfl) ?_
    refine xx_ge (tgt := 24) hx hb dX0_isBetter_17 (by decide) (by omega) (by omega) (fun h3 => ?_) (fun h3 => ?_)
    · skip
      refine lv_iconst (v := nI 0) hx hb dX0_isBetter_24 (by decide) ?_
      exact W.zret (v := (nI (0))) (ty := .boolean) hx hb hr (rfl) (fun t ht hW => ⟨ro_i (bI_f (pB_f.mpr (by omega))).symm, ht⟩) (fun _ h => absurd h List.not_mem_nil) dX0_isBetter_25
    · skip
      refine lv_iconst (v := nI 1) hx hb dX0_isBetter_20 (by decide) ?_
      refine lv_goto (tgt := 25) hx hb dX0_isBetter_21 (by decide) ?_
      exact W.zret (v := (nI (1))) (ty := .boolean) hx hb hr (rfl) (fun t ht hW => ⟨ro_i (bI_t (pB_t.mpr (by omega))).symm, ht⟩) (fun _ h => absurd h List.not_mem_nil) dX0_isBetter_25
set_option maxHeartbeats 4000000 in
set_option maxRecDepth 100000 in
theorem c1_isBetter (l : Launch) (x y : Nat) (hx31 : x < 2147483648) (hy31 : y < 2147483648) : Met l yX1_isBetter wsX1_isBetter ({ frames := 0, cells := 0, slots := 0, locals := 0 }) (fun v _ => v = ([.int (nI (x)), .int (nI (y))] : List Value).toArray) (QcRead (bI (pB x y))) 0 0 (fun _ => False) := by
  refine Met.ofW (cc := cX1_isBetter) (maxL := 2) (ret := (some .boolean)) (by decide) rfl ?_
  intro p e s m args below meth c s₁ B hml hv
  obtain rfl := hv
  have hx := B.exec
  have hb := B.bytes
  have hr := B.returns
  have hts := atoms_spec (ws := wsX1_isBetter) B.pre
  have hown : s.vm.findClass RX1 = some m.cls := findClass_of_methodNamed B.named
  have hlocks := B.notSynchronized
  have hl := lv_entry ([.int (nI (x)), .int (nI (y))]) (n := 2) (Nat.le_of_ble_eq_true rfl)
  rw [lg_entry_eq]
  generalize (lg_sl ([.int (nI (x)), .int (nI (y))]) ++ List.replicate (2 - (lg_sl ([.int (nI (x)), .int (nI (y))])).length) Slot.unset).toArray = ls at hl ⊢
  have hl : lv_has ls 2 [(0, .int (nI (x))), (1, .int (nI (y)))] := hl
  refine lv_iload_n hx hb dX1_isBetter_0 rfl (lv_at hl 0 rfl) ?_
  refine lv_bipush (v := nI 100) hx hb dX1_isBetter_1 (by decide) ?_
  refine xx_div hx hb dX1_isBetter_3 (by omega) (by decide) (by decide) ?_
  refine lv_iload_n hx hb dX1_isBetter_4 rfl (lv_at hl 1 rfl) ?_
  refine lv_bipush (v := nI 100) hx hb dX1_isBetter_5 (by decide) ?_
  refine xx_div hx hb dX1_isBetter_7 (by omega) (by decide) (by decide) ?_
  refine xx_lt (tgt := 33) hx hb dX1_isBetter_8 (by decide) (by omega) (by omega) (fun h1 => ?_) (fun h1 => ?_)
  · skip
    refine lv_iconst (v := nI 1) hx hb dX1_isBetter_33 (by decide) ?_
    refine lv_goto (tgt := 38) hx hb dX1_isBetter_34 (by decide) ?_
    exact W.zret (v := (nI (1))) (ty := .boolean) hx hb hr (rfl) (fun t ht hW => ⟨ro_i (bI_t (pB_t.mpr (by omega))).symm, ht⟩) (fun _ h => absurd h List.not_mem_nil) dX1_isBetter_38
  · skip
    refine lv_iload_n hx hb dX1_isBetter_11 rfl (lv_at hl 0 rfl) ?_
    refine lv_bipush (v := nI 100) hx hb dX1_isBetter_12 (by decide) ?_
    refine xx_div hx hb dX1_isBetter_14 (by omega) (by decide) (by decide) ?_
    refine lv_iload_n hx hb dX1_isBetter_15 rfl (lv_at hl 1 rfl) ?_
    refine lv_bipush (v := nI 100) hx hb dX1_isBetter_16 (by decide) ?_
    refine xx_div hx hb dX1_isBetter_18 (by omega) (by decide) (by decide) ?_
    refine xx_ne (tgt := 37) hx hb dX1_isBetter_19 (by decide) (by omega) (by omega) (fun h2 => ?_) (fun h2 => ?_)
    · skip
      refine lv_iconst (v := nI 0) hx hb dX1_isBetter_37 (by decide) ?_
      exact W.zret (v := (nI (0))) (ty := .boolean) hx hb hr (rfl) (fun t ht hW => ⟨ro_i (bI_f (pB_f.mpr (by omega))).symm, ht⟩) (fun _ h => absurd h List.not_mem_nil) dX1_isBetter_38
    · skip
      refine lv_iload_n hx hb dX1_isBetter_22 rfl (lv_at hl 0 rfl) ?_
      refine lv_bipush (v := nI 100) hx hb dX1_isBetter_23 (by decide) ?_
      refine xx_rem hx hb dX1_isBetter_25 (by omega) (by decide) (by decide) ?_
      refine lv_iload_n hx hb dX1_isBetter_26 rfl (lv_at hl 1 rfl) ?_
      refine lv_bipush (v := nI 100) hx hb dX1_isBetter_27 (by decide) ?_
      refine xx_rem hx hb dX1_isBetter_29 (by omega) (by decide) (by decide) ?_
      refine xx_le (tgt := 37) hx hb dX1_isBetter_30 (by decide) (by omega) (by omega) (fun h3 => ?_) (fun h3 => ?_)
      · skip
        refine lv_iconst (v := nI 0) hx hb dX1_isBetter_37 (by decide) ?_
        exact W.zret (v := (nI (0))) (ty := .boolean) hx hb hr (rfl) (fun t ht hW => ⟨ro_i (bI_f (pB_f.mpr (by omega))).symm, ht⟩) (fun _ h => absurd h List.not_mem_nil) dX1_isBetter_38
      · skip
        refine lv_iconst (v := nI 1) hx hb dX1_isBetter_33 (by decide) ?_
        refine lv_goto (tgt := 38) hx hb dX1_isBetter_34 (by decide) ?_
        exact W.zret (v := (nI (1))) (ty := .boolean) hx hb hr (rfl) (fun t ht hW => ⟨ro_i (bI_t (pB_t.mpr (by omega))).symm, ht⟩) (fun _ h => absurd h List.not_mem_nil) dX1_isBetter_38
set_option maxHeartbeats 4000000 in
set_option maxRecDepth 100000 in
theorem c0_hasBit (l : Launch) (f : Nat → Bool) (r : Nat) (hr10 : r < 10) : Met l yX0_hasBit wsX0_hasBit ({ frames := 0, cells := 0, slots := 0, locals := 0 }) (fun v _ => v = ([.int (nI (bm f)), .int (nI (r))] : List Value).toArray) (QcRead (bI (f r))) 0 0 (fun _ => False) := by
  refine Met.ofW (cc := cX0_hasBit) (maxL := 2) (ret := (some .boolean)) (by decide) rfl ?_
  intro p e s m args below meth c s₁ B hml hv
  obtain rfl := hv
  have hx := B.exec
  have hb := B.bytes
  have hr := B.returns
  have hts := atoms_spec (ws := wsX0_hasBit) B.pre
  have hown : s.vm.findClass RX0 = some m.cls := findClass_of_methodNamed B.named
  have hlocks := B.notSynchronized
  have hl := lv_entry ([.int (nI (bm f)), .int (nI (r))]) (n := 2) (Nat.le_of_ble_eq_true rfl)
  rw [lg_entry_eq]
  generalize (lg_sl ([.int (nI (bm f)), .int (nI (r))]) ++ List.replicate (2 - (lg_sl ([.int (nI (bm f)), .int (nI (r))])).length) Slot.unset).toArray = ls at hl ⊢
  have hl : lv_has ls 2 [(0, .int (nI (bm f))), (1, .int (nI (r)))] := hl
  refine lv_iload_n hx hb dX0_hasBit_0 rfl (lv_at hl 0 rfl) ?_
  refine lv_iload_n hx hb dX0_hasBit_1 rfl (lv_at hl 1 rfl) ?_
  refine lv_ishr hx hb dX0_hasBit_2 ?_
  refine lv_iconst (v := nI 1) hx hb dX0_hasBit_3 (by decide) ?_
  refine lv_iand hx hb dX0_hasBit_4 ?_
  refine lv_if_eq (tgt := 12) hx hb dX0_hasBit_5 (by decide) (fun h1 => ?_) (fun h1 => ?_)
  · skip
    refine lv_iconst (v := nI 0) hx hb dX0_hasBit_12 (by decide) ?_
    exact W.zret (v := (nI (0))) (ty := .boolean) hx hb hr (rfl) (fun t ht hW => ⟨ro_i (bI_f ((bm_has f hr10).mp h1)).symm, ht⟩) (fun _ h => absurd h List.not_mem_nil) dX0_hasBit_13
  · skip
    refine lv_iconst (v := nI 1) hx hb dX0_hasBit_8 (by decide) ?_
    refine lv_goto (tgt := 13) hx hb dX0_hasBit_9 (by decide) ?_
    exact W.zret (v := (nI (1))) (ty := .boolean) hx hb hr (rfl) (fun t ht hW => ⟨ro_i (bI_t (Bool.not_eq_false (f r) |>.mp (fun q => h1 ((bm_has f hr10).mpr q)))).symm, ht⟩) (fun _ h => absurd h List.not_mem_nil) dX0_hasBit_13
set_option maxHeartbeats 4000000 in
set_option maxRecDepth 100000 in
theorem c0_withBit (l : Launch) (f : Nat → Bool) (r : Nat) (b : Bool) (hr10 : r < 10) : Met l yX0_withBit wsX0_withBit ({ frames := 0, cells := 0, slots := 0, locals := 0 }) (fun v _ => v = ([.int (nI (bm f)), .int (nI (r)), .int (bI (b))] : List Value).toArray) (QcRead (nI (bm (upB f r b)))) 0 0 (fun _ => False) := by
  refine Met.ofW (cc := cX0_withBit) (maxL := 3) (ret := (some .int)) (by decide) rfl ?_
  intro p e s m args below meth c s₁ B hml hv
  obtain rfl := hv
  have hx := B.exec
  have hb := B.bytes
  have hr := B.returns
  have hts := atoms_spec (ws := wsX0_withBit) B.pre
  have hown : s.vm.findClass RX0 = some m.cls := findClass_of_methodNamed B.named
  have hlocks := B.notSynchronized
  have hl := lv_entry ([.int (nI (bm f)), .int (nI (r)), .int (bI (b))]) (n := 3) (Nat.le_of_ble_eq_true rfl)
  rw [lg_entry_eq]
  generalize (lg_sl ([.int (nI (bm f)), .int (nI (r)), .int (bI (b))]) ++ List.replicate (3 - (lg_sl ([.int (nI (bm f)), .int (nI (r)), .int (bI (b))])).length) Slot.unset).toArray = ls at hl ⊢
  have hl : lv_has ls 3 [(0, .int (nI (bm f))), (1, .int (nI (r))), (2, .int (bI (b)))] := hl
  refine lv_iload_n hx hb dX0_withBit_0 rfl (lv_at hl 2 rfl) ?_
  refine xx_if0 (tgt := 12) hx hb dX0_withBit_1 (by decide) (fun h1 => ?_) (fun h1 => ?_)
  · skip
    refine lv_iload_n hx hb dX0_withBit_12 rfl (lv_at hl 0 rfl) ?_
    refine lv_iconst (v := nI 1) hx hb dX0_withBit_13 (by decide) ?_
    refine lv_iload_n hx hb dX0_withBit_14 rfl (lv_at hl 1 rfl) ?_
    refine lv_ishl hx hb dX0_withBit_15 ?_
    refine lv_iconst (v := -1) hx hb dX0_withBit_16 (by decide) ?_
    refine lv_ixor hx hb dX0_withBit_17 ?_
    refine lv_iand hx hb dX0_withBit_18 ?_
    exact W.iret (v := (nI (bm f) &&& ((nI (1) <<< (nI (r) &&& 31)) ^^^ (-1)))) hx hb hr (fun t ht hW => ⟨ro_i (by rw [h1]; exact bm_off f hr10), ht⟩) (fun _ h => absurd h List.not_mem_nil) dX0_withBit_19
  · skip
    refine lv_iload_n hx hb dX0_withBit_4 rfl (lv_at hl 0 rfl) ?_
    refine lv_iconst (v := nI 1) hx hb dX0_withBit_5 (by decide) ?_
    refine lv_iload_n hx hb dX0_withBit_6 rfl (lv_at hl 1 rfl) ?_
    refine lv_ishl hx hb dX0_withBit_7 ?_
    refine lv_ior hx hb dX0_withBit_8 ?_
    refine lv_goto (tgt := 19) hx hb dX0_withBit_9 (by decide) ?_
    exact W.iret (v := (nI (bm f) ||| (nI (1) <<< (nI (r) &&& 31)))) hx hb hr (fun t ht hW => ⟨ro_i (by rw [h1]; exact bm_on f hr10), ht⟩) (fun _ h => absurd h List.not_mem_nil) dX0_withBit_19
end
section
-- ===== more pure words =====
theorem pO_le {S : AS} (hi : iv S) {k : Nat} (hk : k < 160) : pO S k ≤ 1999909 := by
  have h := hi.2.1 k
  unfold pO
  split <;> omega
theorem pO_mod {S : AS} {r z : Nat} (hr : r < 10) (hz : z < 16) : pO S (16 * r + z) % 100 = r := by
  unfold pO
  split <;> omega
/-- what the reference's keeps answers -/
def kR (S : AS) (k : Nat) : Int32 := if pK S k then nI (sC S k) else -1
theorem kM_n {S : AS} {k : Nat} (h : ¬ kM S k = -1) : kM S k = nI (sC S k) ∧ sU S k ≠ 0 := by
  unfold kM at h ⊢
  by_cases h0 : sU S k = 0
  · rw [if_pos h0] at h; exact absurd rfl h
  · rw [if_neg h0]; exact ⟨rfl, h0⟩
theorem kM_m {S : AS} (hi : iv S) {k : Nat} (h : kM S k = -1) : pK S k = false := by
  unfold kM at h
  by_cases h0 : sU S k = 0
  · unfold pK; rw [h0]; simp
  · rw [if_neg h0] at h
    exact absurd h (nI_m1 (by have := (hi.2.2.1 k).2; omega))
theorem kR_t {S : AS} {k : Nat} (h : pK S k = true) : kR S k = nI (sC S k) := by unfold kR; rw [h]; rfl
theorem kR_f {S : AS} {k : Nat} (h : pK S k = false) : kR S k = -1 := by unfold kR; rw [h]; rfl
theorem kR_m {S : AS} (hi : iv S) {k : Nat} (h : kR S k = -1) : pK S k = false := by
  cases hk : pK S k with
  | false => rfl
  | true => rw [kR_t hk] at h; exact absurd h (nI_m1 (by have := (hi.2.2.1 k).2; omega))
theorem kR_n {S : AS} {k : Nat} (h : ¬ kR S k = -1) : pK S k = true ∧ kR S k = nI (sC S k) := by
  cases hk : pK S k with
  | false => exact absurd (kR_f hk) h
  | true => exact ⟨rfl, kR_t hk⟩
theorem sFd {S : AS} {r z : Nat} (hz : z < 16) : sF S ((16 * r + z) / 16) ((16 * r + z) % 16) = sF S r z := by
  rw [show (16 * r + z) / 16 = r by omega, show (16 * r + z) % 16 = z by omega]
def pr2 (f : Nat → Nat → Int32) (d : Int32) (x y : Int32) : Int32 := if inR 10 x && inR 16 y then f x.toNatClampNeg y.toNatClampNeg else d
theorem pr2_t {f : Nat → Nat → Int32} {d : Int32} {r z : Nat} (hr : r < 10) (hz : z < 16) : pr2 f d (nI r) (nI z) = f r z := by
  unfold pr2
  rw [inR_n (by decide) hr, inR_n (by decide) hz, nI_clamp (by omega), nI_clamp (by omega)]
  rfl
theorem pr2_f {f : Nat → Nat → Int32} {d : Int32} {x y : Int32} (h : (inR 10 x && inR 16 y) = false) : pr2 f d x y = d := by unfold pr2; rw [h]; rfl
theorem pr2_f1 {f : Nat → Nat → Int32} {d : Int32} {x y : Int32} (h : inR 10 x = false) : pr2 f d x y = d := pr2_f (by rw [h]; rfl)
theorem pr2_f2 {f : Nat → Nat → Int32} {d : Int32} {x y : Int32} (h : inR 16 y = false) : pr2 f d x y = d := pr2_f (by rw [h, Bool.and_false])
def pr1 (n : Nat) (f : Nat → Int32) (d : Int32) (x : Int32) : Int32 := if inR n x then f x.toNatClampNeg else d
theorem pr1_t {n : Nat} {f : Nat → Int32} {d : Int32} {r : Nat} (hn : n < 2147483648) (hr : r < n) : pr1 n f d (nI r) = f r := by
  unfold pr1
  rw [inR_n hn hr, nI_clamp (by omega)]
  rfl
theorem pr1_f {n : Nat} {f : Nat → Int32} {d : Int32} {x : Int32} (h : inR n x = false) : pr1 n f d x = d := by unfold pr1; rw [h]; rfl
def aLook (S : AS) (a : Nat) (x : Int32) : Int32 := if x = 0 then nI (sT S) else if x = 1 then nI (bm (fun r => !(sG S r))) else if x = 2 then nI (bm (sD S)) else if x = 3 then nI a else -1
abbrev aClaim (S : AS) (x y : Int32) : Int32 := pr2 (fun r z => nI (pO S (16 * r + z))) (-1) x y
abbrev aKept (S : AS) (x y : Int32) : Int32 := pr2 (fun r z => kR S (16 * r + z)) (-1) x y
abbrev aLost (S : AS) (x y : Int32) : Int32 := pr2 (fun r z => bI (pL S (16 * r + z))) (nI 0) x y
abbrev aSends (S : AS) (x : Int32) : Int32 := pr1 16 (fun z => nI (bm (fun r => pS S r z))) (-1) x
abbrev aSaid (S : AS) (x : Int32) : Int32 := pr1 (sN S) (fun j => nI (sR S j % 100)) (-1) x
theorem bm_step {f : Nat → Bool} {q : Nat} {b : Bool} (h : f q = b) : bm (upB (fun j => decide (j < q) && f j) q b) = bm (fun j => decide (j < q + 1) && f j) := by
  apply bm_congr
  intro j _
  unfold upB
  by_cases hj : j = q
  · subst hj; simp [h]
  · rw [if_neg hj]
    have : decide (j < q) = decide (j < q + 1) := by
      by_cases h1 : j < q
      · rw [decide_eq_true h1, decide_eq_true (by omega)]
      · rw [decide_eq_false h1, decide_eq_false (by omega)]
    show (decide (j < q) && f j) = (decide (j < q + 1) && f j)
    rw [this]
theorem bm_skip {f : Nat → Bool} {q : Nat} (h : f q = false) : bm (fun j => decide (j < q) && f j) = bm (fun j => decide (j < q + 1) && f j) := by
  rw [← bm_step h]
  apply bm_congr
  intro j _
  unfold upB
  by_cases hj : j = q
  · subst hj; simp
  · rw [if_neg hj]
theorem bm_all {f : Nat → Bool} : bm (fun j => decide (j < 10) && f j) = bm f := bm_congr (fun j hj => by simp [hj])
theorem bm_zero {f : Nat → Bool} : nI 0 = nI (bm (fun j => decide (j < 0) && f j)) := rfl
end
section
set_option maxHeartbeats 4000000 in
set_option maxRecDepth 100000 in
theorem c0_isListener (l : Launch) (D : va_G) (ad : Nat → Nat) (ck : Nat → ClassId) (S : AS) (a : Nat) (hi : iv S) (r : Nat) (hr10 : r < 10) : Met l yX0_isListener wsX0_isListener ({ frames := 1, cells := 0, slots := 0, locals := 21 }) (PW D (wB ad ck S a) (tyB ck) [.ref (ad 0), .int (nI (r))]) (QcRead (bI (pH S r))) 0 0 (fun _ => False) := by
  refine Met.ofW (cc := cX0_isListener) (maxL := 2) (ret := (some .boolean)) (by decide) rfl ?_
  intro p e s m args below meth c s₁ B hml hv
  obtain ⟨rfl, hP, hK⟩ := hv
  have hx := B.exec
  have hb := B.bytes
  have hr := B.returns
  have hts := atoms_spec (ws := wsX0_isListener) B.pre
  have hown : s.vm.findClass RX0 = some m.cls := findClass_of_methodNamed B.named
  have hlocks := B.notSynchronized
  have hin0 : ∀ w ∈ wsX00, w ∈ wsX0_isListener := by decide +kernel
  have hl := lv_entry ([.ref (ad 0), .int (nI (r))]) (n := 2) (Nat.le_of_ble_eq_true rfl)
  rw [lg_entry_eq]
  generalize (lg_sl ([.ref (ad 0), .int (nI (r))]) ++ List.replicate (2 - (lg_sl ([.ref (ad 0), .int (nI (r))])).length) Slot.unset).toArray = ls at hl ⊢
  have hl : lv_has ls 2 [(0, .ref (ad 0)), (1, .int (nI (r)))] := hl
  refine lv_aload_n hx hb dX0_isListener_0 rfl (lv_at hl 0 rfl) ?_
  refine va_get (D := D) (ci := 0) (v := .int (nI (bm (fun i_ => !(sG S i_))))) (C := RX0) (T := TX0) (N := 10) hx hb hts hin0 hown hK hP 0 rfl rfl 1 (by decide) (hts (.fieldLink RX0 13 "ClaimBench" "thereBits" "I") (by decide +kernel)) (fun _ h9 => h9) rfl dX0_isListener_1 ?_
  refine lv_iload_n hx hb dX0_isListener_4 rfl (lv_at hl 1 rfl) ?_
  refine W.callR (W.runS (As := [.int (nI (bm (fun i_ => !(sG S i_)))), .int (nI (r))]) (rest := []) ⟨hx, hb, hml, hown, hts⟩ (c0_hasBit l (fun i_ => !(sG S i_)) r (by omega)) (va_cwS 2 hts gX0_isListener_X0_hasBit rfl rfl rfl (by decide +kernel) ⟨Nat.le_of_ble_eq_true rfl, Nat.le_of_ble_eq_true rfl⟩) preEq rfl rfl hl.1 rfl (lv_room (Nat.le_of_ble_eq_true rfl)) dX0_isListener_5 ⟨Nat.zero_le _, Nat.zero_le _⟩) ?_
  refine W.eq (g2 := F0 m 8 ls [.int (bI ((fun i_ => !(sG S i_)) r))]) rfl ?_
  refine xx_if0 (tgt := 26) hx hb dX0_isListener_8 (by decide) (fun h1 => ?_) (fun h1 => ?_)
  · skip
    refine lv_iconst (v := nI 0) hx hb dX0_isListener_26 (by decide) ?_
    exact W.zret (v := (nI (0))) (ty := .boolean) hx hb hr (rfl) (fun t ht hW => ⟨ro_i (bI_f (by unfold pH; rw [show (!(sG S r)) = false from h1]; rfl)).symm, ht⟩) (fun _ h => absurd h List.not_mem_nil) dX0_isListener_27
  · skip
    refine lv_aload_n hx hb dX0_isListener_11 rfl (lv_at hl 0 rfl) ?_
    refine va_get (D := D) (ci := 0) (v := .int (nI (bm (sD S)))) (C := RX0) (T := TX0) (N := 10) hx hb hts hin0 hown hK hP 0 rfl rfl 2 (by decide) (hts (.fieldLink RX0 16 "ClaimBench" "deafBits" "I") (by decide +kernel)) (fun _ h9 => h9) rfl dX0_isListener_12 ?_
    refine lv_iload_n hx hb dX0_isListener_15 rfl (lv_at hl 1 rfl) ?_
    refine W.callR (W.runS (As := [.int (nI (bm (sD S))), .int (nI (r))]) (rest := []) ⟨hx, hb, hml, hown, hts⟩ (c0_hasBit l (sD S) r (by omega)) (va_cwS 2 hts gX0_isListener_X0_hasBit rfl rfl rfl (by decide +kernel) ⟨Nat.le_of_ble_eq_true rfl, Nat.le_of_ble_eq_true rfl⟩) preEq rfl rfl hl.1 rfl (lv_room (Nat.le_of_ble_eq_true rfl)) dX0_isListener_16 ⟨Nat.zero_le _, Nat.zero_le _⟩) ?_
    refine W.eq (g2 := F0 m 19 ls [.int (bI ((sD S) r))]) rfl ?_
    refine xx_if1 (tgt := 26) hx hb dX0_isListener_19 (by decide) (fun h2 => ?_) (fun h2 => ?_)
    · skip
      refine lv_iconst (v := nI 0) hx hb dX0_isListener_26 (by decide) ?_
      exact W.zret (v := (nI (0))) (ty := .boolean) hx hb hr (rfl) (fun t ht hW => ⟨ro_i (bI_f (by unfold pH; rw [show (!(sG S r)) = true from h1, show sD S r = true from h2]; rfl)).symm, ht⟩) (fun _ h => absurd h List.not_mem_nil) dX0_isListener_27
    · skip
      refine lv_iconst (v := nI 1) hx hb dX0_isListener_22 (by decide) ?_
      refine lv_goto (tgt := 27) hx hb dX0_isListener_23 (by decide) ?_
      exact W.zret (v := (nI (1))) (ty := .boolean) hx hb hr (rfl) (fun t ht hW => ⟨ro_i (bI_t (by unfold pH; rw [show (!(sG S r)) = true from h1, show sD S r = false from h2]; rfl)).symm, ht⟩) (fun _ h => absurd h List.not_mem_nil) dX0_isListener_27
set_option maxHeartbeats 4000000 in
set_option maxRecDepth 100000 in
theorem c0_keepsOne (l : Launch) (D : va_G) (ad : Nat → Nat) (ck : Nat → ClassId) (S : AS) (a : Nat) (hi : iv S) (k : Nat) (hk : k < 160) : Met l yX0_keepsOne wsX0_keepsOne ({ frames := 1, cells := 0, slots := 0, locals := 21 }) (PW D (wB ad ck S a) (tyB ck) [.ref (ad 0), .int (nI (k))]) (QcRead (bI (pK S k))) 0 0 (fun _ => False) := by
  refine Met.ofW (cc := cX0_keepsOne) (maxL := 2) (ret := (some .boolean)) (by decide) rfl ?_
  intro p e s m args below meth c s₁ B hml hv
  obtain ⟨rfl, hP, hK⟩ := hv
  have hx := B.exec
  have hb := B.bytes
  have hr := B.returns
  have hts := atoms_spec (ws := wsX0_keepsOne) B.pre
  have hown : s.vm.findClass RX0 = some m.cls := findClass_of_methodNamed B.named
  have hlocks := B.notSynchronized
  have hin0 : ∀ w ∈ wsX00, w ∈ wsX0_keepsOne := by decide +kernel
  have hl := lv_entry ([.ref (ad 0), .int (nI (k))]) (n := 2) (Nat.le_of_ble_eq_true rfl)
  rw [lg_entry_eq]
  generalize (lg_sl ([.ref (ad 0), .int (nI (k))]) ++ List.replicate (2 - (lg_sl ([.ref (ad 0), .int (nI (k))])).length) Slot.unset).toArray = ls at hl ⊢
  have hl : lv_has ls 2 [(0, .ref (ad 0)), (1, .int (nI (k)))] := hl
  have hT := hi.1
  have hC := hi.2.2.1 k
  have hU := hi.2.2.2.1 k
  refine lv_aload_n hx hb dX0_keepsOne_0 rfl (lv_at hl 0 rfl) ?_
  refine va_get (D := D) (ci := 0) (v := .int (nI (sT S))) (C := RX0) (T := TX0) (N := 10) hx hb hts hin0 hown hK hP 0 rfl rfl 0 (by decide) (hts (.fieldLink RX0 7 "ClaimBench" "time" "I") (by decide +kernel)) (fun _ h9 => h9) rfl dX0_keepsOne_1 ?_
  refine lv_aload_n hx hb dX0_keepsOne_4 rfl (lv_at hl 0 rfl) ?_
  refine va_get (D := D) (ci := 0) (v := .ref (ad 4)) (C := RX0) (T := TX0) (N := 10) hx hb hts hin0 hown hK hP 0 rfl rfl 7 (by decide) (hts (.fieldLink RX0 32 "ClaimBench" "keptUntil" "[I") (by decide +kernel)) (fun _ h9 => h9) rfl dX0_keepsOne_5 ?_
  refine lv_iload_n hx hb dX0_keepsOne_8 rfl (lv_at hl 1 rfl) ?_
  refine xx_ald hx hb hK hP 4 3 (fun c_ => nI (sU S c_)) rfl rfl (j := k) (by omega) (by decide) dX0_keepsOne_9 ?_
  refine W.eq (g2 := F0 m 10 ls [.int (nI (sU S k)), .int (nI (sT S))]) rfl ?_
  refine xx_ge (tgt := 36) hx hb dX0_keepsOne_10 (by decide) (by omega) (by omega) (fun h1 => ?_) (fun h1 => ?_)
  · skip
    refine lv_iconst (v := nI 0) hx hb dX0_keepsOne_36 (by decide) ?_
    exact W.zret (v := (nI (0))) (ty := .boolean) hx hb hr (rfl) (fun t ht hW => ⟨ro_i (bI_f (by unfold pK; rw [decide_eq_false (Nat.not_lt.mpr h1)]; rfl)).symm, ht⟩) (fun _ h => absurd h List.not_mem_nil) dX0_keepsOne_37
  · skip
    refine lv_aload_n hx hb dX0_keepsOne_13 rfl (lv_at hl 0 rfl) ?_
    refine va_get (D := D) (ci := 0) (v := .int (nI (bm (fun i_ => !(sG S i_))))) (C := RX0) (T := TX0) (N := 10) hx hb hts hin0 hown hK hP 0 rfl rfl 1 (by decide) (hts (.fieldLink RX0 13 "ClaimBench" "thereBits" "I") (by decide +kernel)) (fun _ h9 => h9) rfl dX0_keepsOne_14 ?_
    refine lv_aload_n hx hb dX0_keepsOne_17 rfl (lv_at hl 0 rfl) ?_
    refine va_get (D := D) (ci := 0) (v := .ref (ad 3)) (C := RX0) (T := TX0) (N := 10) hx hb hts hin0 hown hK hP 0 rfl rfl 6 (by decide) (hts (.fieldLink RX0 29 "ClaimBench" "keptClaims" "[I") (by decide +kernel)) (fun _ h9 => h9) rfl dX0_keepsOne_18 ?_
    refine lv_iload_n hx hb dX0_keepsOne_21 rfl (lv_at hl 1 rfl) ?_
    refine xx_ald hx hb hK hP 3 2 (fun c_ => nI (sC S c_)) rfl rfl (j := k) (by omega) (by decide) dX0_keepsOne_22 ?_
    refine W.eq (g2 := F0 m 23 ls [.int (nI (sC S k)), .int (nI (bm (fun i_ => !(sG S i_))))]) rfl ?_
    refine W.callR (W.runS (As := [.int (nI (sC S k))]) (rest := [.int (nI (bm (fun i_ => !(sG S i_))))]) ⟨hx, hb, hml, hown, hts⟩ (c0_routerOf l (sC S k) (by omega)) (va_cwS 1 hts gX0_keepsOne_X0_routerOf rfl rfl rfl (by decide +kernel) ⟨Nat.le_of_ble_eq_true rfl, Nat.le_of_ble_eq_true rfl⟩) preEq rfl rfl hl.1 rfl (lv_room (Nat.le_of_ble_eq_true rfl)) dX0_keepsOne_23 ⟨Nat.zero_le _, Nat.zero_le _⟩) ?_
    refine W.eq (g2 := F0 m 26 ls [.int (nI ((sC S k) % 100)), .int (nI (bm (fun i_ => !(sG S i_))))]) rfl ?_
    refine W.callR (W.runS (As := [.int (nI (bm (fun i_ => !(sG S i_)))), .int (nI ((sC S k) % 100))]) (rest := []) ⟨hx, hb, hml, hown, hts⟩ (c0_hasBit l (fun i_ => !(sG S i_)) ((sC S k) % 100) (by omega)) (va_cwS 2 hts gX0_keepsOne_X0_hasBit rfl rfl rfl (by decide +kernel) ⟨Nat.le_of_ble_eq_true rfl, Nat.le_of_ble_eq_true rfl⟩) preEq rfl rfl hl.1 rfl (lv_room (Nat.le_of_ble_eq_true rfl)) dX0_keepsOne_26 ⟨Nat.zero_le _, Nat.zero_le _⟩) ?_
    refine W.eq (g2 := F0 m 29 ls [.int (bI ((fun i_ => !(sG S i_)) ((sC S k) % 100)))]) rfl ?_
    refine xx_if0 (tgt := 36) hx hb dX0_keepsOne_29 (by decide) (fun h2 => ?_) (fun h2 => ?_)
    · skip
      refine lv_iconst (v := nI 0) hx hb dX0_keepsOne_36 (by decide) ?_
      exact W.zret (v := (nI (0))) (ty := .boolean) hx hb hr (rfl) (fun t ht hW => ⟨ro_i (bI_f (by unfold pK; rw [decide_eq_true h1, Bool.true_and]; exact h2)).symm, ht⟩) (fun _ h => absurd h List.not_mem_nil) dX0_keepsOne_37
    · skip
      refine lv_iconst (v := nI 1) hx hb dX0_keepsOne_32 (by decide) ?_
      refine lv_goto (tgt := 37) hx hb dX0_keepsOne_33 (by decide) ?_
      exact W.zret (v := (nI (1))) (ty := .boolean) hx hb hr (rfl) (fun t ht hW => ⟨ro_i (bI_t (by unfold pK; rw [decide_eq_true h1, Bool.true_and]; exact h2)).symm, ht⟩) (fun _ h => absurd h List.not_mem_nil) dX0_keepsOne_37
set_option maxHeartbeats 4000000 in
set_option maxRecDepth 100000 in
theorem c0_isLost (l : Launch) (D : va_G) (ad : Nat → Nat) (ck : Nat → ClassId) (S : AS) (a : Nat) (hi : iv S) (k : Nat) (hk : k < 160) : Met l yX0_isLost wsX0_isLost ({ frames := 2, cells := 0, slots := 0, locals := 43 }) (PW D (wB ad ck S a) (tyB ck) [.ref (ad 0), .int (nI (k))]) (QcRead (bI (pL S k))) 0 0 (fun _ => False) := by
  refine Met.ofW (cc := cX0_isLost) (maxL := 2) (ret := (some .boolean)) (by decide) rfl ?_
  intro p e s m args below meth c s₁ B hml hv
  obtain ⟨rfl, hP, hK⟩ := hv
  have hx := B.exec
  have hb := B.bytes
  have hr := B.returns
  have hts := atoms_spec (ws := wsX0_isLost) B.pre
  have hown : s.vm.findClass RX0 = some m.cls := findClass_of_methodNamed B.named
  have hlocks := B.notSynchronized
  have hin0 : ∀ w ∈ wsX00, w ∈ wsX0_isLost := by decide +kernel
  have hl := lv_entry ([.ref (ad 0), .int (nI (k))]) (n := 2) (Nat.le_of_ble_eq_true rfl)
  rw [lg_entry_eq]
  generalize (lg_sl ([.ref (ad 0), .int (nI (k))]) ++ List.replicate (2 - (lg_sl ([.ref (ad 0), .int (nI (k))])).length) Slot.unset).toArray = ls at hl ⊢
  have hl : lv_has ls 2 [(0, .ref (ad 0)), (1, .int (nI (k)))] := hl
  have hT := hi.1
  have hC := hi.2.2.1 k
  have hU := hi.2.2.2.1 k
  have hO := pO_le hi hk
  refine lv_aload_n hx hb dX0_isLost_0 rfl (lv_at hl 0 rfl) ?_
  refine lv_iload_n hx hb dX0_isLost_1 rfl (lv_at hl 1 rfl) ?_
  refine W.callR (W.runV (As := [.int (nI (k))]) (rest := []) ⟨hx, hb, hml, hown, hts⟩ (c0_keepsOne l D ad ck S a hi k (by omega)) (cwV 1 hts gX0_isLost_X0_keepsOne rfl rfl rfl (by decide +kernel) ⟨Nat.le_of_ble_eq_true rfl, Nat.le_of_ble_eq_true rfl⟩) (PW_pre hK hP (ci := 0) rfl rfl) rfl rfl hl.1 rfl (lv_room (Nat.le_of_ble_eq_true rfl)) dX0_isLost_2 ⟨Nat.zero_le _, Nat.zero_le _⟩) ?_
  refine W.eq (g2 := F0 m 5 ls [.int (bI (pK S k))]) rfl ?_
  refine xx_if0 (tgt := 30) hx hb dX0_isLost_5 (by decide) (fun h1 => ?_) (fun h1 => ?_)
  · skip
    refine lv_iconst (v := nI 0) hx hb dX0_isLost_30 (by decide) ?_
    exact W.zret (v := (nI (0))) (ty := .boolean) hx hb hr (rfl) (fun t ht hW => ⟨ro_i (bI_f (by unfold pL; rw [h1]; rfl)).symm, ht⟩) (fun _ h => absurd h List.not_mem_nil) dX0_isLost_31
  · skip
    refine lv_aload_n hx hb dX0_isLost_8 rfl (lv_at hl 0 rfl) ?_
    refine va_get (D := D) (ci := 0) (v := .ref (ad 3)) (C := RX0) (T := TX0) (N := 10) hx hb hts hin0 hown hK hP 0 rfl rfl 6 (by decide) (hts (.fieldLink RX0 29 "ClaimBench" "keptClaims" "[I") (by decide +kernel)) (fun _ h9 => h9) rfl dX0_isLost_9 ?_
    refine lv_iload_n hx hb dX0_isLost_12 rfl (lv_at hl 1 rfl) ?_
    refine xx_ald hx hb hK hP 3 2 (fun c_ => nI (sC S c_)) rfl rfl (j := k) (by omega) (by decide) dX0_isLost_13 ?_
    refine W.eq (g2 := F0 m 14 ls [.int (nI (sC S k))]) rfl ?_
    refine lv_aload_n hx hb dX0_isLost_14 rfl (lv_at hl 0 rfl) ?_
    refine va_get (D := D) (ci := 0) (v := .ref (ad 2)) (C := RX0) (T := TX0) (N := 10) hx hb hts hin0 hown hK hP 0 rfl rfl 5 (by decide) (hts (.fieldLink RX0 26 "ClaimBench" "ownClaims" "[I") (by decide +kernel)) (fun _ h9 => h9) rfl dX0_isLost_15 ?_
    refine lv_iload_n hx hb dX0_isLost_18 rfl (lv_at hl 1 rfl) ?_
    refine xx_ald hx hb hK hP 2 1 (fun c_ => nI (pO S c_)) rfl rfl (j := k) (by omega) (by decide) dX0_isLost_19 ?_
    refine W.eq (g2 := F0 m 20 ls [.int (nI (pO S k)), .int (nI (sC S k))]) rfl ?_
    refine W.callR (W.runS (As := [.int (nI (sC S k)), .int (nI (pO S k))]) (rest := []) ⟨hx, hb, hml, hown, hts⟩ (c0_isBetter l (sC S k) (pO S k) (by omega) (by omega)) (va_cwS 2 hts gX0_isLost_X0_isBetter rfl rfl rfl (by decide +kernel) ⟨Nat.le_of_ble_eq_true rfl, Nat.le_of_ble_eq_true rfl⟩) preEq rfl rfl hl.1 rfl (lv_room (Nat.le_of_ble_eq_true rfl)) dX0_isLost_20 ⟨Nat.zero_le _, Nat.zero_le _⟩) ?_
    refine W.eq (g2 := F0 m 23 ls [.int (bI (pB (sC S k) (pO S k)))]) rfl ?_
    refine xx_if0 (tgt := 30) hx hb dX0_isLost_23 (by decide) (fun h2 => ?_) (fun h2 => ?_)
    · skip
      refine lv_iconst (v := nI 0) hx hb dX0_isLost_30 (by decide) ?_
      exact W.zret (v := (nI (0))) (ty := .boolean) hx hb hr (rfl) (fun t ht hW => ⟨ro_i (bI_f (by unfold pL; rw [h1, Bool.true_and]; exact h2)).symm, ht⟩) (fun _ h => absurd h List.not_mem_nil) dX0_isLost_31
    · skip
      refine lv_iconst (v := nI 1) hx hb dX0_isLost_26 (by decide) ?_
      refine lv_goto (tgt := 31) hx hb dX0_isLost_27 (by decide) ?_
      exact W.zret (v := (nI (1))) (ty := .boolean) hx hb hr (rfl) (fun t ht hW => ⟨ro_i (bI_t (by unfold pL; rw [h1, Bool.true_and]; exact h2)).symm, ht⟩) (fun _ h => absurd h List.not_mem_nil) dX0_isLost_31
set_option maxHeartbeats 4000000 in
set_option maxRecDepth 100000 in
theorem c0_isSender (l : Launch) (D : va_G) (ad : Nat → Nat) (ck : Nat → ClassId) (S : AS) (a : Nat) (hi : iv S) (r z : Nat) (hr10 : r < 10) (hz16 : z < 16) : Met l yX0_isSender wsX0_isSender ({ frames := 3, cells := 0, slots := 0, locals := 64 }) (PW D (wB ad ck S a) (tyB ck) [.ref (ad 0), .int (nI (r)), .int (nI (z))]) (QcRead (bI (pS S r z))) 0 0 (fun _ => False) := by
  refine Met.ofW (cc := cX0_isSender) (maxL := 3) (ret := (some .boolean)) (by decide) rfl ?_
  intro p e s m args below meth c s₁ B hml hv
  obtain ⟨rfl, hP, hK⟩ := hv
  have hx := B.exec
  have hb := B.bytes
  have hr := B.returns
  have hts := atoms_spec (ws := wsX0_isSender) B.pre
  have hown : s.vm.findClass RX0 = some m.cls := findClass_of_methodNamed B.named
  have hlocks := B.notSynchronized
  have hin0 : ∀ w ∈ wsX00, w ∈ wsX0_isSender := by decide +kernel
  have hl := lv_entry ([.ref (ad 0), .int (nI (r)), .int (nI (z))]) (n := 3) (Nat.le_of_ble_eq_true rfl)
  rw [lg_entry_eq]
  generalize (lg_sl ([.ref (ad 0), .int (nI (r)), .int (nI (z))]) ++ List.replicate (3 - (lg_sl ([.ref (ad 0), .int (nI (r)), .int (nI (z))])).length) Slot.unset).toArray = ls at hl ⊢
  have hl : lv_has ls 3 [(0, .ref (ad 0)), (1, .int (nI (r))), (2, .int (nI (z)))] := hl
  refine lv_aload_n hx hb dX0_isSender_0 rfl (lv_at hl 0 rfl) ?_
  refine va_get (D := D) (ci := 0) (v := .int (nI (bm (fun i_ => !(sG S i_))))) (C := RX0) (T := TX0) (N := 10) hx hb hts hin0 hown hK hP 0 rfl rfl 1 (by decide) (hts (.fieldLink RX0 13 "ClaimBench" "thereBits" "I") (by decide +kernel)) (fun _ h9 => h9) rfl dX0_isSender_1 ?_
  refine lv_iload_n hx hb dX0_isSender_4 rfl (lv_at hl 1 rfl) ?_
  refine W.callR (W.runS (As := [.int (nI (bm (fun i_ => !(sG S i_)))), .int (nI (r))]) (rest := []) ⟨hx, hb, hml, hown, hts⟩ (c0_hasBit l (fun i_ => !(sG S i_)) r (by omega)) (va_cwS 2 hts gX0_isSender_X0_hasBit rfl rfl rfl (by decide +kernel) ⟨Nat.le_of_ble_eq_true rfl, Nat.le_of_ble_eq_true rfl⟩) preEq rfl rfl hl.1 rfl (lv_room (Nat.le_of_ble_eq_true rfl)) dX0_isSender_5 ⟨Nat.zero_le _, Nat.zero_le _⟩) ?_
  refine W.eq (g2 := F0 m 8 ls [.int (bI ((fun i_ => !(sG S i_)) r))]) rfl ?_
  refine xx_if0 (tgt := 40) hx hb dX0_isSender_8 (by decide) (fun h1 => ?_) (fun h1 => ?_)
  · skip
    refine lv_iconst (v := nI 0) hx hb dX0_isSender_40 (by decide) ?_
    exact W.zret (v := (nI (0))) (ty := .boolean) hx hb hr (rfl) (fun t ht hW => ⟨ro_i (bI_f (by unfold pS; rw [show (!(sG S r)) = false from h1]; rfl)).symm, ht⟩) (fun _ h => absurd h List.not_mem_nil) dX0_isSender_41
  · skip
    refine lv_aload_n hx hb dX0_isSender_11 rfl (lv_at hl 0 rfl) ?_
    refine va_get (D := D) (ci := 0) (v := .ref (ad 1)) (C := RX0) (T := TX0) (N := 10) hx hb hts hin0 hown hK hP 0 rfl rfl 4 (by decide) (hts (.fieldLink RX0 22 "ClaimBench" "forwardBits" "[I") (by decide +kernel)) (fun _ h9 => h9) rfl dX0_isSender_12 ?_
    refine lv_iload_n hx hb dX0_isSender_15 rfl (lv_at hl 2 rfl) ?_
    refine xx_ald hx hb hK hP 1 0 (fun c_ => nI (bm (fun i_ => sF S i_ c_))) rfl rfl (j := z) (by omega) (by decide) dX0_isSender_16 ?_
    refine W.eq (g2 := F0 m 17 ls [.int (nI (bm (fun i_ => sF S i_ z)))]) rfl ?_
    refine lv_iload_n hx hb dX0_isSender_17 rfl (lv_at hl 1 rfl) ?_
    refine W.callR (W.runS (As := [.int (nI (bm (fun i_ => sF S i_ z))), .int (nI (r))]) (rest := []) ⟨hx, hb, hml, hown, hts⟩ (c0_hasBit l (fun i_ => sF S i_ z) r (by omega)) (va_cwS 2 hts gX0_isSender_X0_hasBit rfl rfl rfl (by decide +kernel) ⟨Nat.le_of_ble_eq_true rfl, Nat.le_of_ble_eq_true rfl⟩) preEq rfl rfl hl.1 rfl (lv_room (Nat.le_of_ble_eq_true rfl)) dX0_isSender_18 ⟨Nat.zero_le _, Nat.zero_le _⟩) ?_
    refine W.eq (g2 := F0 m 21 ls [.int (bI ((fun i_ => sF S i_ z) r))]) rfl ?_
    refine xx_if0 (tgt := 40) hx hb dX0_isSender_21 (by decide) (fun h2 => ?_) (fun h2 => ?_)
    · skip
      refine lv_iconst (v := nI 0) hx hb dX0_isSender_40 (by decide) ?_
      exact W.zret (v := (nI (0))) (ty := .boolean) hx hb hr (rfl) (fun t ht hW => ⟨ro_i (bI_f (by unfold pS; rw [show (!(sG S r)) = true from h1, show sF S r z = false from h2]; rfl)).symm, ht⟩) (fun _ h => absurd h List.not_mem_nil) dX0_isSender_41
    · skip
      refine lv_aload_n hx hb dX0_isSender_24 rfl (lv_at hl 0 rfl) ?_
      refine lv_iload_n hx hb dX0_isSender_25 rfl (lv_at hl 1 rfl) ?_
      refine lv_iload_n hx hb dX0_isSender_26 rfl (lv_at hl 2 rfl) ?_
      refine W.callR (W.runS (As := [.int (nI (r)), .int (nI (z))]) (rest := [.ref (ad 0)]) ⟨hx, hb, hml, hown, hts⟩ (c0_cellOf l r z) (va_cwS 2 hts gX0_isSender_X0_cellOf rfl rfl rfl (by decide +kernel) ⟨Nat.le_of_ble_eq_true rfl, Nat.le_of_ble_eq_true rfl⟩) preEq rfl rfl hl.1 rfl (lv_room (Nat.le_of_ble_eq_true rfl)) dX0_isSender_27 ⟨Nat.zero_le _, Nat.zero_le _⟩) ?_
      refine W.eq (g2 := F0 m 30 ls [.int (nI (16 * r + z)), .ref (ad 0)]) rfl ?_
      refine W.callR (W.runV (As := [.int (nI (16 * r + z))]) (rest := []) ⟨hx, hb, hml, hown, hts⟩ (c0_isLost l D ad ck S a hi (16 * r + z) (by omega)) (cwV 1 hts gX0_isSender_X0_isLost rfl rfl rfl (by decide +kernel) ⟨Nat.le_of_ble_eq_true rfl, Nat.le_of_ble_eq_true rfl⟩) (PW_pre hK hP (ci := 0) rfl rfl) rfl rfl hl.1 rfl (lv_room (Nat.le_of_ble_eq_true rfl)) dX0_isSender_30 ⟨Nat.zero_le _, Nat.zero_le _⟩) ?_
      refine W.eq (g2 := F0 m 33 ls [.int (bI (pL S (16 * r + z)))]) rfl ?_
      refine xx_if1 (tgt := 40) hx hb dX0_isSender_33 (by decide) (fun h3 => ?_) (fun h3 => ?_)
      · skip
        refine lv_iconst (v := nI 0) hx hb dX0_isSender_40 (by decide) ?_
        exact W.zret (v := (nI (0))) (ty := .boolean) hx hb hr (rfl) (fun t ht hW => ⟨ro_i (bI_f (by unfold pS; rw [show (!(sG S r)) = true from h1, show sF S r z = true from h2, h3]; rfl)).symm, ht⟩) (fun _ h => absurd h List.not_mem_nil) dX0_isSender_41
      · skip
        refine lv_iconst (v := nI 1) hx hb dX0_isSender_36 (by decide) ?_
        refine lv_goto (tgt := 41) hx hb dX0_isSender_37 (by decide) ?_
        exact W.zret (v := (nI (1))) (ty := .boolean) hx hb hr (rfl) (fun t ht hW => ⟨ro_i (bI_t (by unfold pS; rw [show (!(sG S r)) = true from h1, show sF S r z = true from h2, h3]; rfl)).symm, ht⟩) (fun _ h => absurd h List.not_mem_nil) dX0_isSender_41
set_option maxHeartbeats 4000000 in
set_option maxRecDepth 100000 in
theorem c0_claim (l : Launch) (D : va_G) (ad : Nat → Nat) (ck : Nat → ClassId) (S : AS) (a : Nat) (hi : iv S) (x y : Int32) : Met l yX0_claim wsX0_claim ({ frames := 1, cells := 0, slots := 0, locals := 21 }) (PW D (wB ad ck S a) (tyB ck) [.ref (ad 0), .int (x), .int (y)]) (QcRead (aClaim S x y)) 0 0 (fun _ => False) := by
  refine Met.ofW (cc := cX0_claim) (maxL := 3) (ret := (some .int)) (by decide) rfl ?_
  intro p e s m args below meth c s₁ B hml hv
  obtain ⟨rfl, hP, hK⟩ := hv
  have hx := B.exec
  have hb := B.bytes
  have hr := B.returns
  have hts := atoms_spec (ws := wsX0_claim) B.pre
  have hown : s.vm.findClass RX0 = some m.cls := findClass_of_methodNamed B.named
  have hlocks := B.notSynchronized
  have hin0 : ∀ w ∈ wsX00, w ∈ wsX0_claim := by decide +kernel
  have hl := lv_entry ([.ref (ad 0), .int (x), .int (y)]) (n := 3) (Nat.le_of_ble_eq_true rfl)
  rw [lg_entry_eq]
  generalize (lg_sl ([.ref (ad 0), .int (x), .int (y)]) ++ List.replicate (3 - (lg_sl ([.ref (ad 0), .int (x), .int (y)])).length) Slot.unset).toArray = ls at hl ⊢
  have hl : lv_has ls 3 [(0, .ref (ad 0)), (1, .int (x)), (2, .int (y))] := hl
  refine lv_iload_n hx hb dX0_claim_0 rfl (lv_at hl 1 rfl) ?_
  refine W.callR (W.runS (As := [.int (x)]) (rest := []) ⟨hx, hb, hml, hown, hts⟩ (c0_isRouter l ((x))) (va_cwS 1 hts gX0_claim_X0_isRouter rfl rfl rfl (by decide +kernel) ⟨Nat.le_of_ble_eq_true rfl, Nat.le_of_ble_eq_true rfl⟩) preEq rfl rfl hl.1 rfl (lv_room (Nat.le_of_ble_eq_true rfl)) dX0_claim_1 ⟨Nat.zero_le _, Nat.zero_le _⟩) ?_
  refine W.eq (g2 := F0 m 4 ls [.int (bI (inR 10 ((x))))]) rfl ?_
  refine xx_if0 (tgt := 14) hx hb dX0_claim_4 (by decide) (fun h1 => ?_) (fun h1 => ?_)
  · skip
    refine lv_iconst (v := -1) hx hb dX0_claim_14 (by decide) ?_
    exact W.iret (v := (-1)) hx hb hr (fun t ht hW => ⟨ro_i ((pr2_f1 h1).symm), ht⟩) (fun _ h => absurd h List.not_mem_nil) dX0_claim_15
  · skip
    obtain ⟨r, hr10, rfl⟩ := inR_t (by decide) h1
    refine lv_iload_n hx hb dX0_claim_7 rfl (lv_at hl 2 rfl) ?_
    refine W.callR (W.runS (As := [.int (y)]) (rest := []) ⟨hx, hb, hml, hown, hts⟩ (c0_isSource l ((y))) (va_cwS 1 hts gX0_claim_X0_isSource rfl rfl rfl (by decide +kernel) ⟨Nat.le_of_ble_eq_true rfl, Nat.le_of_ble_eq_true rfl⟩) preEq rfl rfl hl.1 rfl (lv_room (Nat.le_of_ble_eq_true rfl)) dX0_claim_8 ⟨Nat.zero_le _, Nat.zero_le _⟩) ?_
    refine W.eq (g2 := F0 m 11 ls [.int (bI (inR 16 ((y))))]) rfl ?_
    refine xx_if1 (tgt := 16) hx hb dX0_claim_11 (by decide) (fun h2 => ?_) (fun h2 => ?_)
    · skip
      obtain ⟨z, hz16, rfl⟩ := inR_t (by decide) h2
      refine lv_aload_n hx hb dX0_claim_16 rfl (lv_at hl 0 rfl) ?_
      refine va_get (D := D) (ci := 0) (v := .ref (ad 2)) (C := RX0) (T := TX0) (N := 10) hx hb hts hin0 hown hK hP 0 rfl rfl 5 (by decide) (hts (.fieldLink RX0 26 "ClaimBench" "ownClaims" "[I") (by decide +kernel)) (fun _ h9 => h9) rfl dX0_claim_17 ?_
      refine lv_iload_n hx hb dX0_claim_20 rfl (lv_at hl 1 rfl) ?_
      refine lv_iload_n hx hb dX0_claim_21 rfl (lv_at hl 2 rfl) ?_
      refine W.callR (W.runS (As := [.int (nI (r)), .int (nI (z))]) (rest := [.ref (ad 2)]) ⟨hx, hb, hml, hown, hts⟩ (c0_cellOf l r z) (va_cwS 2 hts gX0_claim_X0_cellOf rfl rfl rfl (by decide +kernel) ⟨Nat.le_of_ble_eq_true rfl, Nat.le_of_ble_eq_true rfl⟩) preEq rfl rfl hl.1 rfl (lv_room (Nat.le_of_ble_eq_true rfl)) dX0_claim_22 ⟨Nat.zero_le _, Nat.zero_le _⟩) ?_
      refine W.eq (g2 := F0 m 25 ls [.int (nI (16 * r + z)), .ref (ad 2)]) rfl ?_
      refine xx_ald hx hb hK hP 2 1 (fun c_ => nI (pO S c_)) rfl rfl (j := 16 * r + z) (by omega) (by decide) dX0_claim_25 ?_
      refine W.eq (g2 := F0 m 26 ls [.int (nI (pO S (16 * r + z)))]) rfl ?_
      exact W.iret (v := (nI (pO S (16 * r + z)))) hx hb hr (fun t ht hW => ⟨ro_i (by unfold aClaim; rw [pr2_t hr10 hz16]), ht⟩) (fun _ h => absurd h List.not_mem_nil) dX0_claim_26
    · skip
      refine lv_iconst (v := -1) hx hb dX0_claim_14 (by decide) ?_
      exact W.iret (v := (-1)) hx hb hr (fun t ht hW => ⟨ro_i ((pr2_f2 h2).symm), ht⟩) (fun _ h => absurd h List.not_mem_nil) dX0_claim_15
set_option maxHeartbeats 4000000 in
set_option maxRecDepth 100000 in
theorem c0_kept (l : Launch) (D : va_G) (ad : Nat → Nat) (ck : Nat → ClassId) (S : AS) (a : Nat) (hi : iv S) (x y : Int32) : Met l yX0_kept wsX0_kept ({ frames := 2, cells := 0, slots := 0, locals := 42 }) (PW D (wB ad ck S a) (tyB ck) [.ref (ad 0), .int (x), .int (y)]) (QcRead (aKept S x y)) 0 0 (fun _ => False) := by
  refine Met.ofW (cc := cX0_kept) (maxL := 3) (ret := (some .int)) (by decide) rfl ?_
  intro p e s m args below meth c s₁ B hml hv
  obtain ⟨rfl, hP, hK⟩ := hv
  have hx := B.exec
  have hb := B.bytes
  have hr := B.returns
  have hts := atoms_spec (ws := wsX0_kept) B.pre
  have hown : s.vm.findClass RX0 = some m.cls := findClass_of_methodNamed B.named
  have hlocks := B.notSynchronized
  have hin0 : ∀ w ∈ wsX00, w ∈ wsX0_kept := by decide +kernel
  have hl := lv_entry ([.ref (ad 0), .int (x), .int (y)]) (n := 3) (Nat.le_of_ble_eq_true rfl)
  rw [lg_entry_eq]
  generalize (lg_sl ([.ref (ad 0), .int (x), .int (y)]) ++ List.replicate (3 - (lg_sl ([.ref (ad 0), .int (x), .int (y)])).length) Slot.unset).toArray = ls at hl ⊢
  have hl : lv_has ls 3 [(0, .ref (ad 0)), (1, .int (x)), (2, .int (y))] := hl
  refine lv_iload_n hx hb dX0_kept_0 rfl (lv_at hl 1 rfl) ?_
  refine W.callR (W.runS (As := [.int (x)]) (rest := []) ⟨hx, hb, hml, hown, hts⟩ (c0_isRouter l ((x))) (va_cwS 1 hts gX0_kept_X0_isRouter rfl rfl rfl (by decide +kernel) ⟨Nat.le_of_ble_eq_true rfl, Nat.le_of_ble_eq_true rfl⟩) preEq rfl rfl hl.1 rfl (lv_room (Nat.le_of_ble_eq_true rfl)) dX0_kept_1 ⟨Nat.zero_le _, Nat.zero_le _⟩) ?_
  refine W.eq (g2 := F0 m 4 ls [.int (bI (inR 10 ((x))))]) rfl ?_
  refine xx_if0 (tgt := 26) hx hb dX0_kept_4 (by decide) (fun h1 => ?_) (fun h1 => ?_)
  · skip
    refine lv_iconst (v := -1) hx hb dX0_kept_26 (by decide) ?_
    exact W.iret (v := (-1)) hx hb hr (fun t ht hW => ⟨ro_i ((pr2_f1 h1).symm), ht⟩) (fun _ h => absurd h List.not_mem_nil) dX0_kept_27
  · skip
    obtain ⟨r, hr10, rfl⟩ := inR_t (by decide) h1
    refine lv_iload_n hx hb dX0_kept_7 rfl (lv_at hl 2 rfl) ?_
    refine W.callR (W.runS (As := [.int (y)]) (rest := []) ⟨hx, hb, hml, hown, hts⟩ (c0_isSource l ((y))) (va_cwS 1 hts gX0_kept_X0_isSource rfl rfl rfl (by decide +kernel) ⟨Nat.le_of_ble_eq_true rfl, Nat.le_of_ble_eq_true rfl⟩) preEq rfl rfl hl.1 rfl (lv_room (Nat.le_of_ble_eq_true rfl)) dX0_kept_8 ⟨Nat.zero_le _, Nat.zero_le _⟩) ?_
    refine W.eq (g2 := F0 m 11 ls [.int (bI (inR 16 ((y))))]) rfl ?_
    refine xx_if0 (tgt := 26) hx hb dX0_kept_11 (by decide) (fun h2 => ?_) (fun h2 => ?_)
    · skip
      refine lv_iconst (v := -1) hx hb dX0_kept_26 (by decide) ?_
      exact W.iret (v := (-1)) hx hb hr (fun t ht hW => ⟨ro_i ((pr2_f2 h2).symm), ht⟩) (fun _ h => absurd h List.not_mem_nil) dX0_kept_27
    · skip
      obtain ⟨z, hz16, rfl⟩ := inR_t (by decide) h2
      refine lv_aload_n hx hb dX0_kept_14 rfl (lv_at hl 0 rfl) ?_
      refine lv_iload_n hx hb dX0_kept_15 rfl (lv_at hl 1 rfl) ?_
      refine lv_iload_n hx hb dX0_kept_16 rfl (lv_at hl 2 rfl) ?_
      refine W.callR (W.runS (As := [.int (nI (r)), .int (nI (z))]) (rest := [.ref (ad 0)]) ⟨hx, hb, hml, hown, hts⟩ (c0_cellOf l r z) (va_cwS 2 hts gX0_kept_X0_cellOf rfl rfl rfl (by decide +kernel) ⟨Nat.le_of_ble_eq_true rfl, Nat.le_of_ble_eq_true rfl⟩) preEq rfl rfl hl.1 rfl (lv_room (Nat.le_of_ble_eq_true rfl)) dX0_kept_17 ⟨Nat.zero_le _, Nat.zero_le _⟩) ?_
      refine W.eq (g2 := F0 m 20 ls [.int (nI (16 * r + z)), .ref (ad 0)]) rfl ?_
      refine W.callR (W.runV (As := [.int (nI (16 * r + z))]) (rest := []) ⟨hx, hb, hml, hown, hts⟩ (c0_keepsOne l D ad ck S a hi (16 * r + z) (by omega)) (cwV 1 hts gX0_kept_X0_keepsOne rfl rfl rfl (by decide +kernel) ⟨Nat.le_of_ble_eq_true rfl, Nat.le_of_ble_eq_true rfl⟩) (PW_pre hK hP (ci := 0) rfl rfl) rfl rfl hl.1 rfl (lv_room (Nat.le_of_ble_eq_true rfl)) dX0_kept_20 ⟨Nat.zero_le _, Nat.zero_le _⟩) ?_
      refine W.eq (g2 := F0 m 23 ls [.int (bI (pK S (16 * r + z)))]) rfl ?_
      refine xx_if1 (tgt := 28) hx hb dX0_kept_23 (by decide) (fun h3 => ?_) (fun h3 => ?_)
      · skip
        refine lv_aload_n hx hb dX0_kept_28 rfl (lv_at hl 0 rfl) ?_
        refine va_get (D := D) (ci := 0) (v := .ref (ad 3)) (C := RX0) (T := TX0) (N := 10) hx hb hts hin0 hown hK hP 0 rfl rfl 6 (by decide) (hts (.fieldLink RX0 29 "ClaimBench" "keptClaims" "[I") (by decide +kernel)) (fun _ h9 => h9) rfl dX0_kept_29 ?_
        refine lv_iload_n hx hb dX0_kept_32 rfl (lv_at hl 1 rfl) ?_
        refine lv_iload_n hx hb dX0_kept_33 rfl (lv_at hl 2 rfl) ?_
        refine W.callR (W.runS (As := [.int (nI (r)), .int (nI (z))]) (rest := [.ref (ad 3)]) ⟨hx, hb, hml, hown, hts⟩ (c0_cellOf l r z) (va_cwS 2 hts gX0_kept_X0_cellOf rfl rfl rfl (by decide +kernel) ⟨Nat.le_of_ble_eq_true rfl, Nat.le_of_ble_eq_true rfl⟩) preEq rfl rfl hl.1 rfl (lv_room (Nat.le_of_ble_eq_true rfl)) dX0_kept_34 ⟨Nat.zero_le _, Nat.zero_le _⟩) ?_
        refine W.eq (g2 := F0 m 37 ls [.int (nI (16 * r + z)), .ref (ad 3)]) rfl ?_
        refine xx_ald hx hb hK hP 3 2 (fun c_ => nI (sC S c_)) rfl rfl (j := 16 * r + z) (by omega) (by decide) dX0_kept_37 ?_
        refine W.eq (g2 := F0 m 38 ls [.int (nI (sC S (16 * r + z)))]) rfl ?_
        exact W.iret (v := (nI (sC S (16 * r + z)))) hx hb hr (fun t ht hW => ⟨ro_i (((pr2_t hr10 hz16).trans (kR_t h3)).symm), ht⟩) (fun _ h => absurd h List.not_mem_nil) dX0_kept_38
      · skip
        refine lv_iconst (v := -1) hx hb dX0_kept_26 (by decide) ?_
        exact W.iret (v := (-1)) hx hb hr (fun t ht hW => ⟨ro_i (((pr2_t hr10 hz16).trans (kR_f h3)).symm), ht⟩) (fun _ h => absurd h List.not_mem_nil) dX0_kept_27
set_option maxHeartbeats 4000000 in
set_option maxRecDepth 100000 in
theorem c0_lost (l : Launch) (D : va_G) (ad : Nat → Nat) (ck : Nat → ClassId) (S : AS) (a : Nat) (hi : iv S) (x y : Int32) : Met l yX0_lost wsX0_lost ({ frames := 3, cells := 0, slots := 0, locals := 64 }) (PW D (wB ad ck S a) (tyB ck) [.ref (ad 0), .int (x), .int (y)]) (QcRead (aLost S x y)) 0 0 (fun _ => False) := by
  refine Met.ofW (cc := cX0_lost) (maxL := 3) (ret := (some .boolean)) (by decide) rfl ?_
  intro p e s m args below meth c s₁ B hml hv
  obtain ⟨rfl, hP, hK⟩ := hv
  have hx := B.exec
  have hb := B.bytes
  have hr := B.returns
  have hts := atoms_spec (ws := wsX0_lost) B.pre
  have hown : s.vm.findClass RX0 = some m.cls := findClass_of_methodNamed B.named
  have hlocks := B.notSynchronized
  have hin0 : ∀ w ∈ wsX00, w ∈ wsX0_lost := by decide +kernel
  have hl := lv_entry ([.ref (ad 0), .int (x), .int (y)]) (n := 3) (Nat.le_of_ble_eq_true rfl)
  rw [lg_entry_eq]
  generalize (lg_sl ([.ref (ad 0), .int (x), .int (y)]) ++ List.replicate (3 - (lg_sl ([.ref (ad 0), .int (x), .int (y)])).length) Slot.unset).toArray = ls at hl ⊢
  have hl : lv_has ls 3 [(0, .ref (ad 0)), (1, .int (x)), (2, .int (y))] := hl
  refine lv_iload_n hx hb dX0_lost_0 rfl (lv_at hl 1 rfl) ?_
  refine W.callR (W.runS (As := [.int (x)]) (rest := []) ⟨hx, hb, hml, hown, hts⟩ (c0_isRouter l ((x))) (va_cwS 1 hts gX0_lost_X0_isRouter rfl rfl rfl (by decide +kernel) ⟨Nat.le_of_ble_eq_true rfl, Nat.le_of_ble_eq_true rfl⟩) preEq rfl rfl hl.1 rfl (lv_room (Nat.le_of_ble_eq_true rfl)) dX0_lost_1 ⟨Nat.zero_le _, Nat.zero_le _⟩) ?_
  refine W.eq (g2 := F0 m 4 ls [.int (bI (inR 10 ((x))))]) rfl ?_
  refine xx_if0 (tgt := 30) hx hb dX0_lost_4 (by decide) (fun h1 => ?_) (fun h1 => ?_)
  · skip
    refine lv_iconst (v := nI 0) hx hb dX0_lost_30 (by decide) ?_
    exact W.zret (v := (nI (0))) (ty := .boolean) hx hb hr (rfl) (fun t ht hW => ⟨ro_i ((pr2_f1 h1).symm), ht⟩) (fun _ h => absurd h List.not_mem_nil) dX0_lost_31
  · skip
    obtain ⟨r, hr10, rfl⟩ := inR_t (by decide) h1
    refine lv_iload_n hx hb dX0_lost_7 rfl (lv_at hl 2 rfl) ?_
    refine W.callR (W.runS (As := [.int (y)]) (rest := []) ⟨hx, hb, hml, hown, hts⟩ (c0_isSource l ((y))) (va_cwS 1 hts gX0_lost_X0_isSource rfl rfl rfl (by decide +kernel) ⟨Nat.le_of_ble_eq_true rfl, Nat.le_of_ble_eq_true rfl⟩) preEq rfl rfl hl.1 rfl (lv_room (Nat.le_of_ble_eq_true rfl)) dX0_lost_8 ⟨Nat.zero_le _, Nat.zero_le _⟩) ?_
    refine W.eq (g2 := F0 m 11 ls [.int (bI (inR 16 ((y))))]) rfl ?_
    refine xx_if0 (tgt := 30) hx hb dX0_lost_11 (by decide) (fun h2 => ?_) (fun h2 => ?_)
    · skip
      refine lv_iconst (v := nI 0) hx hb dX0_lost_30 (by decide) ?_
      exact W.zret (v := (nI (0))) (ty := .boolean) hx hb hr (rfl) (fun t ht hW => ⟨ro_i ((pr2_f2 h2).symm), ht⟩) (fun _ h => absurd h List.not_mem_nil) dX0_lost_31
    · skip
      obtain ⟨z, hz16, rfl⟩ := inR_t (by decide) h2
      refine lv_aload_n hx hb dX0_lost_14 rfl (lv_at hl 0 rfl) ?_
      refine lv_iload_n hx hb dX0_lost_15 rfl (lv_at hl 1 rfl) ?_
      refine lv_iload_n hx hb dX0_lost_16 rfl (lv_at hl 2 rfl) ?_
      refine W.callR (W.runS (As := [.int (nI (r)), .int (nI (z))]) (rest := [.ref (ad 0)]) ⟨hx, hb, hml, hown, hts⟩ (c0_cellOf l r z) (va_cwS 2 hts gX0_lost_X0_cellOf rfl rfl rfl (by decide +kernel) ⟨Nat.le_of_ble_eq_true rfl, Nat.le_of_ble_eq_true rfl⟩) preEq rfl rfl hl.1 rfl (lv_room (Nat.le_of_ble_eq_true rfl)) dX0_lost_17 ⟨Nat.zero_le _, Nat.zero_le _⟩) ?_
      refine W.eq (g2 := F0 m 20 ls [.int (nI (16 * r + z)), .ref (ad 0)]) rfl ?_
      refine W.callR (W.runV (As := [.int (nI (16 * r + z))]) (rest := []) ⟨hx, hb, hml, hown, hts⟩ (c0_isLost l D ad ck S a hi (16 * r + z) (by omega)) (cwV 1 hts gX0_lost_X0_isLost rfl rfl rfl (by decide +kernel) ⟨Nat.le_of_ble_eq_true rfl, Nat.le_of_ble_eq_true rfl⟩) (PW_pre hK hP (ci := 0) rfl rfl) rfl rfl hl.1 rfl (lv_room (Nat.le_of_ble_eq_true rfl)) dX0_lost_20 ⟨Nat.zero_le _, Nat.zero_le _⟩) ?_
      refine W.eq (g2 := F0 m 23 ls [.int (bI (pL S (16 * r + z)))]) rfl ?_
      refine xx_if0 (tgt := 30) hx hb dX0_lost_23 (by decide) (fun h3 => ?_) (fun h3 => ?_)
      · skip
        refine lv_iconst (v := nI 0) hx hb dX0_lost_30 (by decide) ?_
        exact W.zret (v := (nI (0))) (ty := .boolean) hx hb hr (rfl) (fun t ht hW => ⟨ro_i (((pr2_t hr10 hz16).trans (bI_f h3)).symm), ht⟩) (fun _ h => absurd h List.not_mem_nil) dX0_lost_31
      · skip
        refine lv_iconst (v := nI 1) hx hb dX0_lost_26 (by decide) ?_
        refine lv_goto (tgt := 31) hx hb dX0_lost_27 (by decide) ?_
        exact W.zret (v := (nI (1))) (ty := .boolean) hx hb hr (rfl) (fun t ht hW => ⟨ro_i (((pr2_t hr10 hz16).trans (bI_t h3)).symm), ht⟩) (fun _ h => absurd h List.not_mem_nil) dX0_lost_31
set_option maxHeartbeats 4000000 in
set_option maxRecDepth 100000 in
theorem c0_said (l : Launch) (D : va_G) (ad : Nat → Nat) (ck : Nat → ClassId) (S : AS) (a : Nat) (hi : iv S) (x : Int32) : Met l yX0_said wsX0_said ({ frames := 0, cells := 0, slots := 0, locals := 0 }) (PW D (wB ad ck S a) (tyB ck) [.ref (ad 0), .int (x)]) (QcRead (aSaid S x)) 0 0 (fun _ => False) := by
  refine Met.ofW (cc := cX0_said) (maxL := 2) (ret := (some .int)) (by decide) rfl ?_
  intro p e s m args below meth c s₁ B hml hv
  obtain ⟨rfl, hP, hK⟩ := hv
  have hx := B.exec
  have hb := B.bytes
  have hr := B.returns
  have hts := atoms_spec (ws := wsX0_said) B.pre
  have hown : s.vm.findClass RX0 = some m.cls := findClass_of_methodNamed B.named
  have hlocks := B.notSynchronized
  have hin0 : ∀ w ∈ wsX00, w ∈ wsX0_said := by decide +kernel
  have hl := lv_entry ([.ref (ad 0), .int (x)]) (n := 2) (Nat.le_of_ble_eq_true rfl)
  rw [lg_entry_eq]
  generalize (lg_sl ([.ref (ad 0), .int (x)]) ++ List.replicate (2 - (lg_sl ([.ref (ad 0), .int (x)])).length) Slot.unset).toArray = ls at hl ⊢
  have hl : lv_has ls 2 [(0, .ref (ad 0)), (1, .int (x))] := hl
  have hN := hi.2.2.2.2.1
  refine lv_iload_n hx hb dX0_said_0 rfl (lv_at hl 1 rfl) ?_
  refine lv_if_lt (tgt := 19) hx hb dX0_said_1 (by decide) (fun h1 => ?_) (fun h1 => ?_)
  · skip
    refine lv_iconst (v := -1) hx hb dX0_said_19 (by decide) ?_
    exact W.iret (v := (-1)) hx hb hr (fun t ht hW => ⟨ro_i ((pr1_f (inR_f1 h1)).symm), ht⟩) (fun _ h => absurd h List.not_mem_nil) dX0_said_20
  · skip
    refine lv_iload_n hx hb dX0_said_4 rfl (lv_at hl 1 rfl) ?_
    refine lv_aload_n hx hb dX0_said_5 rfl (lv_at hl 0 rfl) ?_
    refine va_get (D := D) (ci := 0) (v := .int (nI (sN S))) (C := RX0) (T := TX0) (N := 10) hx hb hts hin0 hown hK hP 0 rfl rfl 9 (by decide) (hts (.fieldLink RX0 38 "ClaimBench" "rowLength" "I") (by decide +kernel)) (fun _ h9 => h9) rfl dX0_said_6 ?_
    refine lv_icmp_ge (tgt := 19) hx hb dX0_said_9 (by decide) (fun h2 => ?_) (fun h2 => ?_)
    · skip
      refine lv_iconst (v := -1) hx hb dX0_said_19 (by decide) ?_
      exact W.iret (v := (-1)) hx hb hr (fun t ht hW => ⟨ro_i ((pr1_f (inR_f2 h2)).symm), ht⟩) (fun _ h => absurd h List.not_mem_nil) dX0_said_20
    · skip
      obtain ⟨j, hj, rfl⟩ := inR_t (by omega) (inR_mk h1 h2)
      refine lv_iload_n hx hb dX0_said_12 rfl (lv_at hl 1 rfl) ?_
      refine lv_sipush (v := nI 1023) hx hb dX0_said_13 (by decide) ?_
      refine xx_lt (tgt := 21) hx hb dX0_said_16 (by decide) (by omega) (by omega) (fun h3 => ?_) (fun h3 => ?_)
      · skip
        refine lv_aload_n hx hb dX0_said_21 rfl (lv_at hl 0 rfl) ?_
        refine va_get (D := D) (ci := 0) (v := .ref (ad 5)) (C := RX0) (T := TX0) (N := 10) hx hb hts hin0 hown hK hP 0 rfl rfl 8 (by decide) (hts (.fieldLink RX0 35 "ClaimBench" "row" "[I") (by decide +kernel)) (fun _ h9 => h9) rfl dX0_said_22 ?_
        refine lv_iload_n hx hb dX0_said_25 rfl (lv_at hl 1 rfl) ?_
        refine xx_ald hx hb hK hP 5 4 (fun c_ => nI (sR S c_ % 100)) rfl rfl (j := j) (by omega) (by decide) dX0_said_26 ?_
        refine W.eq (g2 := F0 m 27 ls [.int (nI (sR S j % 100))]) rfl ?_
        exact W.iret (v := (nI (sR S j % 100))) hx hb hr (fun t ht hW => ⟨ro_i (by unfold aSaid; rw [pr1_t (by omega) hj]), ht⟩) (fun _ h => absurd h List.not_mem_nil) dX0_said_27
      · skip
        exact absurd h3 (by omega)
set_option maxHeartbeats 4000000 in
set_option maxRecDepth 100000 in
theorem c1_own (l : Launch) (D : va_G) (ad : Nat → Nat) (ck : Nat → ClassId) (S : AS) (a : Nat) (hi : iv S) (r z : Nat) (hr10 : r < 10) (hz16 : z < 16) : Met l yX1_own wsX1_own ({ frames := 0, cells := 0, slots := 0, locals := 0 }) (PW D (wM ad ck S a) (tyM ck) [.ref (ad 0), .int (nI (r)), .int (nI (z))]) (QcRead (nI (pO S (16 * r + z)))) 0 0 (fun _ => False) := by
  refine Met.ofW (cc := cX1_own) (maxL := 3) (ret := (some .int)) (by decide) rfl ?_
  intro p e s m args below meth c s₁ B hml hv
  obtain ⟨rfl, hP, hK⟩ := hv
  have hx := B.exec
  have hb := B.bytes
  have hr := B.returns
  have hts := atoms_spec (ws := wsX1_own) B.pre
  have hown : s.vm.findClass RX1 = some m.cls := findClass_of_methodNamed B.named
  have hlocks := B.notSynchronized
  have hin0 : ∀ w ∈ wsX10, w ∈ wsX1_own := by decide +kernel
  have hl := lv_entry ([.ref (ad 0), .int (nI (r)), .int (nI (z))]) (n := 3) (Nat.le_of_ble_eq_true rfl)
  rw [lg_entry_eq]
  generalize (lg_sl ([.ref (ad 0), .int (nI (r)), .int (nI (z))]) ++ List.replicate (3 - (lg_sl ([.ref (ad 0), .int (nI (r)), .int (nI (z))])).length) Slot.unset).toArray = ls at hl ⊢
  have hl : lv_has ls 3 [(0, .ref (ad 0)), (1, .int (nI (r))), (2, .int (nI (z)))] := hl
  refine lv_aload_n hx hb dX1_own_0 rfl (lv_at hl 0 rfl) ?_
  refine va_get (D := D) (ci := 1) (v := .ref (ad 4)) (C := RX1) (T := TX1) (N := 11) hx hb hts hin0 hown hK hP 0 rfl rfl 5 (by decide) (hts (.fieldLink RX1 19 "ClaimBenchModel" "isStraight" "[Z") (by decide +kernel)) (fun _ h9 => h9) rfl dX1_own_1 ?_
  refine lv_bipush (v := nI 16) hx hb dX1_own_4 (by decide) ?_
  refine lv_iload_n hx hb dX1_own_6 rfl (lv_at hl 1 rfl) ?_
  refine xx_mul hx hb dX1_own_7 ?_
  refine lv_iload_n hx hb dX1_own_8 rfl (lv_at hl 2 rfl) ?_
  refine xx_add hx hb dX1_own_9 ?_
  refine xx_zld hx hb hK hP 4 3 (fun c_ => bI (sS S c_)) rfl rfl (j := (16 * r) + z) (by omega) (by decide) dX1_own_10 ?_
  refine W.eq (g2 := F0 m 11 ls [.int (bI (sS S ((16 * r) + z)))]) rfl ?_
  refine xx_if0 (tgt := 18) hx hb dX1_own_11 (by decide) (fun h1 => ?_) (fun h1 => ?_)
  · skip
    refine lv_ldc (own := RX1) (v := nI 1000000) hx hb hown (hts (.constant RX1 48 (1000000)) (by decide +kernel)) dX1_own_18 ?_
    refine lv_bipush (v := nI 100) hx hb dX1_own_20 (by decide) ?_
    refine lv_aload_n hx hb dX1_own_22 rfl (lv_at hl 0 rfl) ?_
    refine va_get (D := D) (ci := 1) (v := .ref (ad 5)) (C := RX1) (T := TX1) (N := 11) hx hb hts hin0 hown hK hP 0 rfl rfl 6 (by decide) (hts (.fieldLink RX1 22 "ClaimBenchModel" "distance" "[I") (by decide +kernel)) (fun _ h9 => h9) rfl dX1_own_23 ?_
    refine lv_bipush (v := nI 16) hx hb dX1_own_26 (by decide) ?_
    refine lv_iload_n hx hb dX1_own_28 rfl (lv_at hl 1 rfl) ?_
    refine xx_mul hx hb dX1_own_29 ?_
    refine lv_iload_n hx hb dX1_own_30 rfl (lv_at hl 2 rfl) ?_
    refine xx_add hx hb dX1_own_31 ?_
    refine xx_ald hx hb hK hP 5 4 (fun c_ => nI (sI S c_)) rfl rfl (j := (16 * r) + z) (by omega) (by decide) dX1_own_32 ?_
    refine W.eq (g2 := F0 m 33 ls [.int (nI (sI S ((16 * r) + z))), .int (nI (100)), .int (nI (1000000))]) rfl ?_
    refine xx_mul hx hb dX1_own_33 ?_
    refine xx_add hx hb dX1_own_34 ?_
    refine lv_iload_n hx hb dX1_own_35 rfl (lv_at hl 1 rfl) ?_
    refine xx_add hx hb dX1_own_36 ?_
    exact W.iret (v := (nI ((1000000 + (100 * (sI S ((16 * r) + z)))) + r))) hx hb hr (fun t ht hW => ⟨ro_i (congrArg nI (by unfold pO; rw [h1, if_neg (by decide)]; omega)), ht⟩) (fun _ h => absurd h List.not_mem_nil) dX1_own_37
  · skip
    refine lv_iconst (v := nI 0) hx hb dX1_own_14 (by decide) ?_
    refine lv_goto (tgt := 20) hx hb dX1_own_15 (by decide) ?_
    refine lv_bipush (v := nI 100) hx hb dX1_own_20 (by decide) ?_
    refine lv_aload_n hx hb dX1_own_22 rfl (lv_at hl 0 rfl) ?_
    refine va_get (D := D) (ci := 1) (v := .ref (ad 5)) (C := RX1) (T := TX1) (N := 11) hx hb hts hin0 hown hK hP 0 rfl rfl 6 (by decide) (hts (.fieldLink RX1 22 "ClaimBenchModel" "distance" "[I") (by decide +kernel)) (fun _ h9 => h9) rfl dX1_own_23 ?_
    refine lv_bipush (v := nI 16) hx hb dX1_own_26 (by decide) ?_
    refine lv_iload_n hx hb dX1_own_28 rfl (lv_at hl 1 rfl) ?_
    refine xx_mul hx hb dX1_own_29 ?_
    refine lv_iload_n hx hb dX1_own_30 rfl (lv_at hl 2 rfl) ?_
    refine xx_add hx hb dX1_own_31 ?_
    refine xx_ald hx hb hK hP 5 4 (fun c_ => nI (sI S c_)) rfl rfl (j := (16 * r) + z) (by omega) (by decide) dX1_own_32 ?_
    refine W.eq (g2 := F0 m 33 ls [.int (nI (sI S ((16 * r) + z))), .int (nI (100)), .int (nI (0))]) rfl ?_
    refine xx_mul hx hb dX1_own_33 ?_
    refine xx_add hx hb dX1_own_34 ?_
    refine lv_iload_n hx hb dX1_own_35 rfl (lv_at hl 1 rfl) ?_
    refine xx_add hx hb dX1_own_36 ?_
    exact W.iret (v := (nI ((0 + (100 * (sI S ((16 * r) + z)))) + r))) hx hb hr (fun t ht hW => ⟨ro_i (congrArg nI (by unfold pO; rw [h1, if_pos rfl]; omega)), ht⟩) (fun _ h => absurd h List.not_mem_nil) dX1_own_37
set_option maxHeartbeats 4000000 in
set_option maxRecDepth 100000 in
theorem c1_keeps (l : Launch) (D : va_G) (ad : Nat → Nat) (ck : Nat → ClassId) (S : AS) (a : Nat) (hi : iv S) (r z : Nat) (hr10 : r < 10) (hz16 : z < 16) : Met l yX1_keeps wsX1_keeps ({ frames := 0, cells := 0, slots := 0, locals := 0 }) (PW D (wM ad ck S a) (tyM ck) [.ref (ad 0), .int (nI (r)), .int (nI (z))]) (QcRead (kR S (16 * r + z))) 0 0 (fun _ => False) := by
  refine Met.ofW (cc := cX1_keeps) (maxL := 4) (ret := (some .int)) (by decide) rfl ?_
  intro p e s m args below meth c s₁ B hml hv
  obtain ⟨rfl, hP, hK⟩ := hv
  have hx := B.exec
  have hb := B.bytes
  have hr := B.returns
  have hts := atoms_spec (ws := wsX1_keeps) B.pre
  have hown : s.vm.findClass RX1 = some m.cls := findClass_of_methodNamed B.named
  have hlocks := B.notSynchronized
  have hin0 : ∀ w ∈ wsX10, w ∈ wsX1_keeps := by decide +kernel
  have hl := lv_entry ([.ref (ad 0), .int (nI (r)), .int (nI (z))]) (n := 4) (Nat.le_of_ble_eq_true rfl)
  rw [lg_entry_eq]
  generalize (lg_sl ([.ref (ad 0), .int (nI (r)), .int (nI (z))]) ++ List.replicate (4 - (lg_sl ([.ref (ad 0), .int (nI (r)), .int (nI (z))])).length) Slot.unset).toArray = ls at hl ⊢
  have hl : lv_has ls 4 [(0, .ref (ad 0)), (1, .int (nI (r))), (2, .int (nI (z)))] := hl
  have hT := hi.1
  have hC := hi.2.2.1 (16 * r + z)
  have hU := hi.2.2.2.1 (16 * r + z)
  have hI := hi.2.1 (16 * r + z)
  have hO := pO_le hi (k := 16 * r + z) (by omega)
  refine lv_aload_n hx hb dX1_keeps_0 rfl (lv_at hl 0 rfl) ?_
  refine va_get (D := D) (ci := 1) (v := .ref (ad 6)) (C := RX1) (T := TX1) (N := 11) hx hb hts hin0 hown hK hP 0 rfl rfl 7 (by decide) (hts (.fieldLink RX1 26 "ClaimBenchModel" "keptClaim" "[I") (by decide +kernel)) (fun _ h9 => h9) rfl dX1_keeps_1 ?_
  refine lv_bipush (v := nI 16) hx hb dX1_keeps_4 (by decide) ?_
  refine lv_iload_n hx hb dX1_keeps_6 rfl (lv_at hl 1 rfl) ?_
  refine xx_mul hx hb dX1_keeps_7 ?_
  refine lv_iload_n hx hb dX1_keeps_8 rfl (lv_at hl 2 rfl) ?_
  refine xx_add hx hb dX1_keeps_9 ?_
  refine xx_ald hx hb hK hP 6 5 (fun c_ => kM S c_) rfl rfl (j := (16 * r) + z) (by omega) (by decide) dX1_keeps_10 ?_
  refine W.eq (g2 := F0 m 11 ls [.int (kM S ((16 * r) + z))]) rfl ?_
  refine lv_istore_n (lv' := [(3, .int (kM S ((16 * r) + z))), (0, .ref (ad 0)), (1, .int (nI (r))), (2, .int (nI (z)))]) hx hb dX1_keeps_11 rfl hl (by decide) rfl (fun ls hl => ?_)
  refine lv_iload_n hx hb dX1_keeps_12 rfl (lv_at hl 0 rfl) ?_
  refine lv_iconst (v := -1) hx hb dX1_keeps_13 (by decide) ?_
  refine lv_icmp_eq (tgt := 51) hx hb dX1_keeps_14 (by decide) (fun h1 => ?_) (fun h1 => ?_)
  · skip
    refine lv_iconst (v := -1) hx hb dX1_keeps_51 (by decide) ?_
    exact W.iret (v := (-1)) hx hb hr (fun t ht hW => ⟨ro_i ((kR_f (kM_m hi h1)).symm), ht⟩) (fun _ h => absurd h List.not_mem_nil) dX1_keeps_52
  · skip
    obtain ⟨hc, hu0⟩ := kM_n h1
    rw [hc] at hl
    refine lv_aload_n hx hb dX1_keeps_17 rfl (lv_at hl 1 rfl) ?_
    refine va_get (D := D) (ci := 1) (v := .int (nI (sT S))) (C := RX1) (T := TX1) (N := 11) hx hb hts hin0 hown hK hP 0 rfl rfl 0 (by decide) (hts (.fieldLink RX1 39 "ClaimBenchModel" "time" "I") (by decide +kernel)) (fun _ h9 => h9) rfl dX1_keeps_18 ?_
    refine lv_aload_n hx hb dX1_keeps_21 rfl (lv_at hl 1 rfl) ?_
    refine va_get (D := D) (ci := 1) (v := .ref (ad 7)) (C := RX1) (T := TX1) (N := 11) hx hb hts hin0 hown hK hP 0 rfl rfl 8 (by decide) (hts (.fieldLink RX1 29 "ClaimBenchModel" "keptTill" "[I") (by decide +kernel)) (fun _ h9 => h9) rfl dX1_keeps_22 ?_
    refine lv_bipush (v := nI 16) hx hb dX1_keeps_25 (by decide) ?_
    refine lv_iload_n hx hb dX1_keeps_27 rfl (lv_at hl 2 rfl) ?_
    refine xx_mul hx hb dX1_keeps_28 ?_
    refine lv_iload_n hx hb dX1_keeps_29 rfl (lv_at hl 3 rfl) ?_
    refine xx_add hx hb dX1_keeps_30 ?_
    refine xx_ald hx hb hK hP 7 6 (fun c_ => nI (sU S c_)) rfl rfl (j := (16 * r) + z) (by omega) (by decide) dX1_keeps_31 ?_
    refine W.eq (g2 := F0 m 32 ls [.int (nI (sU S ((16 * r) + z))), .int (nI (sT S))]) rfl ?_
    refine xx_ge (tgt := 51) hx hb dX1_keeps_32 (by decide) (by omega) (by omega) (fun h2 => ?_) (fun h2 => ?_)
    · skip
      refine lv_iconst (v := -1) hx hb dX1_keeps_51 (by decide) ?_
      exact W.iret (v := (-1)) hx hb hr (fun t ht hW => ⟨ro_i ((kR_f (by unfold pK; rw [decide_eq_false (Nat.not_lt.mpr h2)]; rfl)).symm), ht⟩) (fun _ h => absurd h List.not_mem_nil) dX1_keeps_52
    · skip
      refine lv_aload_n hx hb dX1_keeps_35 rfl (lv_at hl 1 rfl) ?_
      refine va_get (D := D) (ci := 1) (v := .ref (ad 1)) (C := RX1) (T := TX1) (N := 11) hx hb hts hin0 hown hK hP 0 rfl rfl 2 (by decide) (hts (.fieldLink RX1 7 "ClaimBenchModel" "isGone" "[Z") (by decide +kernel)) (fun _ h9 => h9) rfl dX1_keeps_36 ?_
      refine lv_iload_n hx hb dX1_keeps_39 rfl (lv_at hl 0 rfl) ?_
      refine lv_bipush (v := nI 100) hx hb dX1_keeps_40 (by decide) ?_
      refine xx_rem hx hb dX1_keeps_42 (by omega) (by decide) (by decide) ?_
      refine xx_zld hx hb hK hP 1 0 (fun c_ => bI (sG S c_)) rfl rfl (j := (sC S (16 * r + z)) % 100) (by omega) (by decide) dX1_keeps_43 ?_
      refine W.eq (g2 := F0 m 44 ls [.int (bI (sG S ((sC S (16 * r + z)) % 100)))]) rfl ?_
      refine xx_if1 (tgt := 51) hx hb dX1_keeps_44 (by decide) (fun h3 => ?_) (fun h3 => ?_)
      · skip
        refine lv_iconst (v := -1) hx hb dX1_keeps_51 (by decide) ?_
        exact W.iret (v := (-1)) hx hb hr (fun t ht hW => ⟨ro_i ((kR_f (by unfold pK; rw [decide_eq_true h2, h3]; rfl)).symm), ht⟩) (fun _ h => absurd h List.not_mem_nil) dX1_keeps_52
      · skip
        refine lv_iload_n hx hb dX1_keeps_47 rfl (lv_at hl 0 rfl) ?_
        refine lv_goto (tgt := 52) hx hb dX1_keeps_48 (by decide) ?_
        exact W.iret (v := (nI (sC S (16 * r + z)))) hx hb hr (fun t ht hW => ⟨ro_i ((kR_t (by unfold pK; rw [decide_eq_true h2, h3]; rfl)).symm), ht⟩) (fun _ h => absurd h List.not_mem_nil) dX1_keeps_52
set_option maxHeartbeats 4000000 in
set_option maxRecDepth 100000 in
theorem c1_isLost (l : Launch) (D : va_G) (ad : Nat → Nat) (ck : Nat → ClassId) (S : AS) (a : Nat) (hi : iv S) (r z : Nat) (hr10 : r < 10) (hz16 : z < 16) : Met l yX1_isLost wsX1_isLost ({ frames := 1, cells := 0, slots := 0, locals := 23 }) (PW D (wM ad ck S a) (tyM ck) [.ref (ad 0), .int (nI (r)), .int (nI (z))]) (QcRead (bI (pL S (16 * r + z)))) 0 0 (fun _ => False) := by
  refine Met.ofW (cc := cX1_isLost) (maxL := 4) (ret := (some .boolean)) (by decide) rfl ?_
  intro p e s m args below meth c s₁ B hml hv
  obtain ⟨rfl, hP, hK⟩ := hv
  have hx := B.exec
  have hb := B.bytes
  have hr := B.returns
  have hts := atoms_spec (ws := wsX1_isLost) B.pre
  have hown : s.vm.findClass RX1 = some m.cls := findClass_of_methodNamed B.named
  have hlocks := B.notSynchronized
  have hin0 : ∀ w ∈ wsX10, w ∈ wsX1_isLost := by decide +kernel
  have hl := lv_entry ([.ref (ad 0), .int (nI (r)), .int (nI (z))]) (n := 4) (Nat.le_of_ble_eq_true rfl)
  rw [lg_entry_eq]
  generalize (lg_sl ([.ref (ad 0), .int (nI (r)), .int (nI (z))]) ++ List.replicate (4 - (lg_sl ([.ref (ad 0), .int (nI (r)), .int (nI (z))])).length) Slot.unset).toArray = ls at hl ⊢
  have hl : lv_has ls 4 [(0, .ref (ad 0)), (1, .int (nI (r))), (2, .int (nI (z)))] := hl
  have hT := hi.1
  have hC := hi.2.2.1 (16 * r + z)
  have hU := hi.2.2.2.1 (16 * r + z)
  have hI := hi.2.1 (16 * r + z)
  have hO := pO_le hi (k := 16 * r + z) (by omega)
  refine lv_aload_n hx hb dX1_isLost_0 rfl (lv_at hl 0 rfl) ?_
  refine lv_iload_n hx hb dX1_isLost_1 rfl (lv_at hl 1 rfl) ?_
  refine lv_iload_n hx hb dX1_isLost_2 rfl (lv_at hl 2 rfl) ?_
  refine W.callR (W.runV (As := [.int (nI (r)), .int (nI (z))]) (rest := []) ⟨hx, hb, hml, hown, hts⟩ (c1_keeps l D ad ck S a hi r z (by omega) (by omega)) (cwV 2 hts gX1_isLost_X1_keeps rfl rfl rfl (by decide +kernel) ⟨Nat.le_of_ble_eq_true rfl, Nat.le_of_ble_eq_true rfl⟩) (PW_pre hK hP (ci := 1) rfl rfl) rfl rfl hl.1 rfl (lv_room (Nat.le_of_ble_eq_true rfl)) dX1_isLost_3 ⟨Nat.zero_le _, Nat.zero_le _⟩) ?_
  refine W.eq (g2 := F0 m 6 ls [.int (kR S (16 * r + z))]) rfl ?_
  refine lv_istore_n (lv' := [(3, .int (kR S (16 * r + z))), (0, .ref (ad 0)), (1, .int (nI (r))), (2, .int (nI (z)))]) hx hb dX1_isLost_6 rfl hl (by decide) rfl (fun ls hl => ?_)
  refine lv_iload_n hx hb dX1_isLost_7 rfl (lv_at hl 0 rfl) ?_
  refine lv_iconst (v := -1) hx hb dX1_isLost_8 (by decide) ?_
  refine lv_icmp_eq (tgt := 29) hx hb dX1_isLost_9 (by decide) (fun h1 => ?_) (fun h1 => ?_)
  · skip
    refine lv_iconst (v := nI 0) hx hb dX1_isLost_29 (by decide) ?_
    exact W.zret (v := (nI (0))) (ty := .boolean) hx hb hr (rfl) (fun t ht hW => ⟨ro_i (bI_f (by unfold pL; rw [kR_m hi h1]; rfl)).symm, ht⟩) (fun _ h => absurd h List.not_mem_nil) dX1_isLost_30
  · skip
    obtain ⟨hk1, hc⟩ := kR_n h1
    rw [hc] at hl
    refine lv_iload_n hx hb dX1_isLost_12 rfl (lv_at hl 0 rfl) ?_
    refine lv_aload_n hx hb dX1_isLost_13 rfl (lv_at hl 1 rfl) ?_
    refine lv_iload_n hx hb dX1_isLost_14 rfl (lv_at hl 2 rfl) ?_
    refine lv_iload_n hx hb dX1_isLost_15 rfl (lv_at hl 3 rfl) ?_
    refine W.callR (W.runV (As := [.int (nI (r)), .int (nI (z))]) (rest := [.int (nI (sC S (16 * r + z)))]) ⟨hx, hb, hml, hown, hts⟩ (c1_own l D ad ck S a hi r z (by omega) (by omega)) (cwV 2 hts gX1_isLost_X1_own rfl rfl rfl (by decide +kernel) ⟨Nat.le_of_ble_eq_true rfl, Nat.le_of_ble_eq_true rfl⟩) (PW_pre hK hP (ci := 1) rfl rfl) rfl rfl hl.1 rfl (lv_room (Nat.le_of_ble_eq_true rfl)) dX1_isLost_16 ⟨Nat.zero_le _, Nat.zero_le _⟩) ?_
    refine W.eq (g2 := F0 m 19 ls [.int (nI (pO S (16 * r + z))), .int (nI (sC S (16 * r + z)))]) rfl ?_
    refine W.callR (W.runS (As := [.int (nI (sC S (16 * r + z))), .int (nI (pO S (16 * r + z)))]) (rest := []) ⟨hx, hb, hml, hown, hts⟩ (c1_isBetter l (sC S (16 * r + z)) (pO S (16 * r + z)) (by omega) (by omega)) (va_cwS 2 hts gX1_isLost_X1_isBetter rfl rfl rfl (by decide +kernel) ⟨Nat.le_of_ble_eq_true rfl, Nat.le_of_ble_eq_true rfl⟩) preEq rfl rfl hl.1 rfl (lv_room (Nat.le_of_ble_eq_true rfl)) dX1_isLost_19 ⟨Nat.zero_le _, Nat.zero_le _⟩) ?_
    refine W.eq (g2 := F0 m 22 ls [.int (bI (pB (sC S (16 * r + z)) (pO S (16 * r + z))))]) rfl ?_
    refine xx_if0 (tgt := 29) hx hb dX1_isLost_22 (by decide) (fun h2 => ?_) (fun h2 => ?_)
    · skip
      refine lv_iconst (v := nI 0) hx hb dX1_isLost_29 (by decide) ?_
      exact W.zret (v := (nI (0))) (ty := .boolean) hx hb hr (rfl) (fun t ht hW => ⟨ro_i (bI_f (by unfold pL; rw [hk1, h2]; rfl)).symm, ht⟩) (fun _ h => absurd h List.not_mem_nil) dX1_isLost_30
    · skip
      refine lv_iconst (v := nI 1) hx hb dX1_isLost_25 (by decide) ?_
      refine lv_goto (tgt := 30) hx hb dX1_isLost_26 (by decide) ?_
      exact W.zret (v := (nI (1))) (ty := .boolean) hx hb hr (rfl) (fun t ht hW => ⟨ro_i (bI_t (by unfold pL; rw [hk1, h2]; rfl)).symm, ht⟩) (fun _ h => absurd h List.not_mem_nil) dX1_isLost_30
set_option maxHeartbeats 4000000 in
set_option maxRecDepth 100000 in
theorem c1_isSending (l : Launch) (D : va_G) (ad : Nat → Nat) (ck : Nat → ClassId) (S : AS) (a : Nat) (hi : iv S) (r z : Nat) (hr10 : r < 10) (hz16 : z < 16) : Met l yX1_isSending wsX1_isSending ({ frames := 2, cells := 0, slots := 0, locals := 46 }) (PW D (wM ad ck S a) (tyM ck) [.ref (ad 0), .int (nI (r)), .int (nI (z))]) (QcRead (bI (pS S r z))) 0 0 (fun _ => False) := by
  refine Met.ofW (cc := cX1_isSending) (maxL := 3) (ret := (some .boolean)) (by decide) rfl ?_
  intro p e s m args below meth c s₁ B hml hv
  obtain ⟨rfl, hP, hK⟩ := hv
  have hx := B.exec
  have hb := B.bytes
  have hr := B.returns
  have hts := atoms_spec (ws := wsX1_isSending) B.pre
  have hown : s.vm.findClass RX1 = some m.cls := findClass_of_methodNamed B.named
  have hlocks := B.notSynchronized
  have hin0 : ∀ w ∈ wsX10, w ∈ wsX1_isSending := by decide +kernel
  have hl := lv_entry ([.ref (ad 0), .int (nI (r)), .int (nI (z))]) (n := 3) (Nat.le_of_ble_eq_true rfl)
  rw [lg_entry_eq]
  generalize (lg_sl ([.ref (ad 0), .int (nI (r)), .int (nI (z))]) ++ List.replicate (3 - (lg_sl ([.ref (ad 0), .int (nI (r)), .int (nI (z))])).length) Slot.unset).toArray = ls at hl ⊢
  have hl : lv_has ls 3 [(0, .ref (ad 0)), (1, .int (nI (r))), (2, .int (nI (z)))] := hl
  refine lv_aload_n hx hb dX1_isSending_0 rfl (lv_at hl 0 rfl) ?_
  refine va_get (D := D) (ci := 1) (v := .ref (ad 1)) (C := RX1) (T := TX1) (N := 11) hx hb hts hin0 hown hK hP 0 rfl rfl 2 (by decide) (hts (.fieldLink RX1 7 "ClaimBenchModel" "isGone" "[Z") (by decide +kernel)) (fun _ h9 => h9) rfl dX1_isSending_1 ?_
  refine lv_iload_n hx hb dX1_isSending_4 rfl (lv_at hl 1 rfl) ?_
  refine xx_zld hx hb hK hP 1 0 (fun c_ => bI (sG S c_)) rfl rfl (j := r) (by omega) (by decide) dX1_isSending_5 ?_
  refine W.eq (g2 := F0 m 6 ls [.int (bI (sG S r))]) rfl ?_
  refine xx_if1 (tgt := 36) hx hb dX1_isSending_6 (by decide) (fun h1 => ?_) (fun h1 => ?_)
  · skip
    refine lv_iconst (v := nI 0) hx hb dX1_isSending_36 (by decide) ?_
    exact W.zret (v := (nI (0))) (ty := .boolean) hx hb hr (rfl) (fun t ht hW => ⟨ro_i (bI_f (by unfold pS; rw [h1]; rfl)).symm, ht⟩) (fun _ h => absurd h List.not_mem_nil) dX1_isSending_37
  · skip
    refine lv_aload_n hx hb dX1_isSending_9 rfl (lv_at hl 0 rfl) ?_
    refine va_get (D := D) (ci := 1) (v := .ref (ad 3)) (C := RX1) (T := TX1) (N := 11) hx hb hts hin0 hown hK hP 0 rfl rfl 4 (by decide) (hts (.fieldLink RX1 16 "ClaimBenchModel" "forwards" "[Z") (by decide +kernel)) (fun _ h9 => h9) rfl dX1_isSending_10 ?_
    refine lv_bipush (v := nI 16) hx hb dX1_isSending_13 (by decide) ?_
    refine lv_iload_n hx hb dX1_isSending_15 rfl (lv_at hl 1 rfl) ?_
    refine xx_mul hx hb dX1_isSending_16 ?_
    refine lv_iload_n hx hb dX1_isSending_17 rfl (lv_at hl 2 rfl) ?_
    refine xx_add hx hb dX1_isSending_18 ?_
    refine xx_zld hx hb hK hP 3 2 (fun c_ => bI (sF S (c_ / 16) (c_ % 16))) rfl rfl (j := (16 * r) + z) (by omega) (by decide) dX1_isSending_19 ?_
    refine W.eq (g2 := F0 m 20 ls [.int (bI (sF S (((16 * r) + z) / 16) (((16 * r) + z) % 16)))]) rfl ?_
    refine xx_if0 (tgt := 36) hx hb dX1_isSending_20 (by decide) (fun h2 => ?_) (fun h2 => ?_)
    · skip
      refine lv_iconst (v := nI 0) hx hb dX1_isSending_36 (by decide) ?_
      exact W.zret (v := (nI (0))) (ty := .boolean) hx hb hr (rfl) (fun t ht hW => ⟨ro_i (bI_f (by unfold pS; rw [h1, show sF S r z = false from (sFd hz16).symm.trans h2]; rfl)).symm, ht⟩) (fun _ h => absurd h List.not_mem_nil) dX1_isSending_37
    · skip
      refine lv_aload_n hx hb dX1_isSending_23 rfl (lv_at hl 0 rfl) ?_
      refine lv_iload_n hx hb dX1_isSending_24 rfl (lv_at hl 1 rfl) ?_
      refine lv_iload_n hx hb dX1_isSending_25 rfl (lv_at hl 2 rfl) ?_
      refine W.callR (W.runV (As := [.int (nI (r)), .int (nI (z))]) (rest := []) ⟨hx, hb, hml, hown, hts⟩ (c1_isLost l D ad ck S a hi r z (by omega) (by omega)) (cwV 2 hts gX1_isSending_X1_isLost rfl rfl rfl (by decide +kernel) ⟨Nat.le_of_ble_eq_true rfl, Nat.le_of_ble_eq_true rfl⟩) (PW_pre hK hP (ci := 1) rfl rfl) rfl rfl hl.1 rfl (lv_room (Nat.le_of_ble_eq_true rfl)) dX1_isSending_26 ⟨Nat.zero_le _, Nat.zero_le _⟩) ?_
      refine W.eq (g2 := F0 m 29 ls [.int (bI (pL S (16 * r + z)))]) rfl ?_
      refine xx_if1 (tgt := 36) hx hb dX1_isSending_29 (by decide) (fun h3 => ?_) (fun h3 => ?_)
      · skip
        refine lv_iconst (v := nI 0) hx hb dX1_isSending_36 (by decide) ?_
        exact W.zret (v := (nI (0))) (ty := .boolean) hx hb hr (rfl) (fun t ht hW => ⟨ro_i (bI_f (by unfold pS; rw [h1, show sF S r z = true from (sFd hz16).symm.trans h2, h3]; rfl)).symm, ht⟩) (fun _ h => absurd h List.not_mem_nil) dX1_isSending_37
      · skip
        refine lv_iconst (v := nI 1) hx hb dX1_isSending_32 (by decide) ?_
        refine lv_goto (tgt := 37) hx hb dX1_isSending_33 (by decide) ?_
        exact W.zret (v := (nI (1))) (ty := .boolean) hx hb hr (rfl) (fun t ht hW => ⟨ro_i (bI_t (by unfold pS; rw [h1, show sF S r z = true from (sFd hz16).symm.trans h2, h3]; rfl)).symm, ht⟩) (fun _ h => absurd h List.not_mem_nil) dX1_isSending_37
set_option maxHeartbeats 4000000 in
set_option maxRecDepth 100000 in
theorem c1_claim (l : Launch) (D : va_G) (ad : Nat → Nat) (ck : Nat → ClassId) (S : AS) (a : Nat) (hi : iv S) (x y : Int32) : Met l yX1_claim wsX1_claim ({ frames := 2, cells := 0, slots := 0, locals := 41 }) (PW D (wM ad ck S a) (tyM ck) [.ref (ad 0), .int (x), .int (y)]) (QcRead (aClaim S x y)) 0 0 (fun _ => False) := by
  refine Met.ofW (cc := cX1_claim) (maxL := 3) (ret := (some .int)) (by decide) rfl ?_
  intro p e s m args below meth c s₁ B hml hv
  obtain ⟨rfl, hP, hK⟩ := hv
  have hx := B.exec
  have hb := B.bytes
  have hr := B.returns
  have hts := atoms_spec (ws := wsX1_claim) B.pre
  have hown : s.vm.findClass RX1 = some m.cls := findClass_of_methodNamed B.named
  have hlocks := B.notSynchronized
  have hin0 : ∀ w ∈ wsX10, w ∈ wsX1_claim := by decide +kernel
  have hl := lv_entry ([.ref (ad 0), .int (x), .int (y)]) (n := 3) (Nat.le_of_ble_eq_true rfl)
  rw [lg_entry_eq]
  generalize (lg_sl ([.ref (ad 0), .int (x), .int (y)]) ++ List.replicate (3 - (lg_sl ([.ref (ad 0), .int (x), .int (y)])).length) Slot.unset).toArray = ls at hl ⊢
  have hl : lv_has ls 3 [(0, .ref (ad 0)), (1, .int (x)), (2, .int (y))] := hl
  refine lv_iload_n hx hb dX1_claim_0 rfl (lv_at hl 1 rfl) ?_
  refine lv_iload_n hx hb dX1_claim_1 rfl (lv_at hl 2 rfl) ?_
  refine W.callR (W.runS (As := [.int (x), .int (y)]) (rest := []) ⟨hx, hb, hml, hown, hts⟩ (c1_isPair l ((x)) ((y))) (va_cwS 2 hts gX1_claim_X1_isPair rfl rfl rfl (by decide +kernel) ⟨Nat.le_of_ble_eq_true rfl, Nat.le_of_ble_eq_true rfl⟩) preEq rfl rfl hl.1 rfl (lv_room (Nat.le_of_ble_eq_true rfl)) dX1_claim_2 ⟨Nat.zero_le _, Nat.zero_le _⟩) ?_
  refine W.eq (g2 := F0 m 5 ls [.int (bI (inR 10 ((x)) && inR 16 ((y))))]) rfl ?_
  refine xx_if0 (tgt := 17) hx hb dX1_claim_5 (by decide) (fun h1 => ?_) (fun h1 => ?_)
  · skip
    refine lv_iconst (v := -1) hx hb dX1_claim_17 (by decide) ?_
    exact W.iret (v := (-1)) hx hb hr (fun t ht hW => ⟨ro_i ((pr2_f h1).symm), ht⟩) (fun _ h => absurd h List.not_mem_nil) dX1_claim_18
  · skip
    obtain ⟨hp1, hp2⟩ := (Bool.and_eq_true _ _).mp h1
    obtain ⟨r, hr10, rfl⟩ := inR_t (by decide) hp1
    obtain ⟨z, hz16, rfl⟩ := inR_t (by decide) hp2
    refine lv_aload_n hx hb dX1_claim_8 rfl (lv_at hl 0 rfl) ?_
    refine lv_iload_n hx hb dX1_claim_9 rfl (lv_at hl 1 rfl) ?_
    refine lv_iload_n hx hb dX1_claim_10 rfl (lv_at hl 2 rfl) ?_
    refine W.callR (W.runV (As := [.int (nI (r)), .int (nI (z))]) (rest := []) ⟨hx, hb, hml, hown, hts⟩ (c1_own l D ad ck S a hi r z (by omega) (by omega)) (cwV 2 hts gX1_claim_X1_own rfl rfl rfl (by decide +kernel) ⟨Nat.le_of_ble_eq_true rfl, Nat.le_of_ble_eq_true rfl⟩) (PW_pre hK hP (ci := 1) rfl rfl) rfl rfl hl.1 rfl (lv_room (Nat.le_of_ble_eq_true rfl)) dX1_claim_11 ⟨Nat.zero_le _, Nat.zero_le _⟩) ?_
    refine W.eq (g2 := F0 m 14 ls [.int (nI (pO S (16 * r + z)))]) rfl ?_
    refine lv_goto (tgt := 18) hx hb dX1_claim_14 (by decide) ?_
    exact W.iret (v := (nI (pO S (16 * r + z)))) hx hb hr (fun t ht hW => ⟨ro_i (by unfold aClaim; rw [pr2_t hr10 hz16]), ht⟩) (fun _ h => absurd h List.not_mem_nil) dX1_claim_18
set_option maxHeartbeats 4000000 in
set_option maxRecDepth 100000 in
theorem c1_kept (l : Launch) (D : va_G) (ad : Nat → Nat) (ck : Nat → ClassId) (S : AS) (a : Nat) (hi : iv S) (x y : Int32) : Met l yX1_kept wsX1_kept ({ frames := 2, cells := 0, slots := 0, locals := 41 }) (PW D (wM ad ck S a) (tyM ck) [.ref (ad 0), .int (x), .int (y)]) (QcRead (aKept S x y)) 0 0 (fun _ => False) := by
  refine Met.ofW (cc := cX1_kept) (maxL := 3) (ret := (some .int)) (by decide) rfl ?_
  intro p e s m args below meth c s₁ B hml hv
  obtain ⟨rfl, hP, hK⟩ := hv
  have hx := B.exec
  have hb := B.bytes
  have hr := B.returns
  have hts := atoms_spec (ws := wsX1_kept) B.pre
  have hown : s.vm.findClass RX1 = some m.cls := findClass_of_methodNamed B.named
  have hlocks := B.notSynchronized
  have hin0 : ∀ w ∈ wsX10, w ∈ wsX1_kept := by decide +kernel
  have hl := lv_entry ([.ref (ad 0), .int (x), .int (y)]) (n := 3) (Nat.le_of_ble_eq_true rfl)
  rw [lg_entry_eq]
  generalize (lg_sl ([.ref (ad 0), .int (x), .int (y)]) ++ List.replicate (3 - (lg_sl ([.ref (ad 0), .int (x), .int (y)])).length) Slot.unset).toArray = ls at hl ⊢
  have hl : lv_has ls 3 [(0, .ref (ad 0)), (1, .int (x)), (2, .int (y))] := hl
  refine lv_iload_n hx hb dX1_kept_0 rfl (lv_at hl 1 rfl) ?_
  refine lv_iload_n hx hb dX1_kept_1 rfl (lv_at hl 2 rfl) ?_
  refine W.callR (W.runS (As := [.int (x), .int (y)]) (rest := []) ⟨hx, hb, hml, hown, hts⟩ (c1_isPair l ((x)) ((y))) (va_cwS 2 hts gX1_kept_X1_isPair rfl rfl rfl (by decide +kernel) ⟨Nat.le_of_ble_eq_true rfl, Nat.le_of_ble_eq_true rfl⟩) preEq rfl rfl hl.1 rfl (lv_room (Nat.le_of_ble_eq_true rfl)) dX1_kept_2 ⟨Nat.zero_le _, Nat.zero_le _⟩) ?_
  refine W.eq (g2 := F0 m 5 ls [.int (bI (inR 10 ((x)) && inR 16 ((y))))]) rfl ?_
  refine xx_if0 (tgt := 17) hx hb dX1_kept_5 (by decide) (fun h1 => ?_) (fun h1 => ?_)
  · skip
    refine lv_iconst (v := -1) hx hb dX1_kept_17 (by decide) ?_
    exact W.iret (v := (-1)) hx hb hr (fun t ht hW => ⟨ro_i ((pr2_f h1).symm), ht⟩) (fun _ h => absurd h List.not_mem_nil) dX1_kept_18
  · skip
    obtain ⟨hp1, hp2⟩ := (Bool.and_eq_true _ _).mp h1
    obtain ⟨r, hr10, rfl⟩ := inR_t (by decide) hp1
    obtain ⟨z, hz16, rfl⟩ := inR_t (by decide) hp2
    refine lv_aload_n hx hb dX1_kept_8 rfl (lv_at hl 0 rfl) ?_
    refine lv_iload_n hx hb dX1_kept_9 rfl (lv_at hl 1 rfl) ?_
    refine lv_iload_n hx hb dX1_kept_10 rfl (lv_at hl 2 rfl) ?_
    refine W.callR (W.runV (As := [.int (nI (r)), .int (nI (z))]) (rest := []) ⟨hx, hb, hml, hown, hts⟩ (c1_keeps l D ad ck S a hi r z (by omega) (by omega)) (cwV 2 hts gX1_kept_X1_keeps rfl rfl rfl (by decide +kernel) ⟨Nat.le_of_ble_eq_true rfl, Nat.le_of_ble_eq_true rfl⟩) (PW_pre hK hP (ci := 1) rfl rfl) rfl rfl hl.1 rfl (lv_room (Nat.le_of_ble_eq_true rfl)) dX1_kept_11 ⟨Nat.zero_le _, Nat.zero_le _⟩) ?_
    refine W.eq (g2 := F0 m 14 ls [.int (kR S (16 * r + z))]) rfl ?_
    refine lv_goto (tgt := 18) hx hb dX1_kept_14 (by decide) ?_
    exact W.iret (v := (kR S (16 * r + z))) hx hb hr (fun t ht hW => ⟨ro_i (by unfold aKept; rw [pr2_t hr10 hz16]), ht⟩) (fun _ h => absurd h List.not_mem_nil) dX1_kept_18
set_option maxHeartbeats 4000000 in
set_option maxRecDepth 100000 in
theorem c1_lost (l : Launch) (D : va_G) (ad : Nat → Nat) (ck : Nat → ClassId) (S : AS) (a : Nat) (hi : iv S) (x y : Int32) : Met l yX1_lost wsX1_lost ({ frames := 2, cells := 0, slots := 0, locals := 46 }) (PW D (wM ad ck S a) (tyM ck) [.ref (ad 0), .int (x), .int (y)]) (QcRead (aLost S x y)) 0 0 (fun _ => False) := by
  refine Met.ofW (cc := cX1_lost) (maxL := 3) (ret := (some .boolean)) (by decide) rfl ?_
  intro p e s m args below meth c s₁ B hml hv
  obtain ⟨rfl, hP, hK⟩ := hv
  have hx := B.exec
  have hb := B.bytes
  have hr := B.returns
  have hts := atoms_spec (ws := wsX1_lost) B.pre
  have hown : s.vm.findClass RX1 = some m.cls := findClass_of_methodNamed B.named
  have hlocks := B.notSynchronized
  have hin0 : ∀ w ∈ wsX10, w ∈ wsX1_lost := by decide +kernel
  have hl := lv_entry ([.ref (ad 0), .int (x), .int (y)]) (n := 3) (Nat.le_of_ble_eq_true rfl)
  rw [lg_entry_eq]
  generalize (lg_sl ([.ref (ad 0), .int (x), .int (y)]) ++ List.replicate (3 - (lg_sl ([.ref (ad 0), .int (x), .int (y)])).length) Slot.unset).toArray = ls at hl ⊢
  have hl : lv_has ls 3 [(0, .ref (ad 0)), (1, .int (x)), (2, .int (y))] := hl
  refine lv_iload_n hx hb dX1_lost_0 rfl (lv_at hl 1 rfl) ?_
  refine lv_iload_n hx hb dX1_lost_1 rfl (lv_at hl 2 rfl) ?_
  refine W.callR (W.runS (As := [.int (x), .int (y)]) (rest := []) ⟨hx, hb, hml, hown, hts⟩ (c1_isPair l ((x)) ((y))) (va_cwS 2 hts gX1_lost_X1_isPair rfl rfl rfl (by decide +kernel) ⟨Nat.le_of_ble_eq_true rfl, Nat.le_of_ble_eq_true rfl⟩) preEq rfl rfl hl.1 rfl (lv_room (Nat.le_of_ble_eq_true rfl)) dX1_lost_2 ⟨Nat.zero_le _, Nat.zero_le _⟩) ?_
  refine W.eq (g2 := F0 m 5 ls [.int (bI (inR 10 ((x)) && inR 16 ((y))))]) rfl ?_
  refine xx_if0 (tgt := 21) hx hb dX1_lost_5 (by decide) (fun h1 => ?_) (fun h1 => ?_)
  · skip
    refine lv_iconst (v := nI 0) hx hb dX1_lost_21 (by decide) ?_
    exact W.zret (v := (nI (0))) (ty := .boolean) hx hb hr (rfl) (fun t ht hW => ⟨ro_i ((pr2_f h1).symm), ht⟩) (fun _ h => absurd h List.not_mem_nil) dX1_lost_22
  · skip
    obtain ⟨hp1, hp2⟩ := (Bool.and_eq_true _ _).mp h1
    obtain ⟨r, hr10, rfl⟩ := inR_t (by decide) hp1
    obtain ⟨z, hz16, rfl⟩ := inR_t (by decide) hp2
    refine lv_aload_n hx hb dX1_lost_8 rfl (lv_at hl 0 rfl) ?_
    refine lv_iload_n hx hb dX1_lost_9 rfl (lv_at hl 1 rfl) ?_
    refine lv_iload_n hx hb dX1_lost_10 rfl (lv_at hl 2 rfl) ?_
    refine W.callR (W.runV (As := [.int (nI (r)), .int (nI (z))]) (rest := []) ⟨hx, hb, hml, hown, hts⟩ (c1_isLost l D ad ck S a hi r z (by omega) (by omega)) (cwV 2 hts gX1_lost_X1_isLost rfl rfl rfl (by decide +kernel) ⟨Nat.le_of_ble_eq_true rfl, Nat.le_of_ble_eq_true rfl⟩) (PW_pre hK hP (ci := 1) rfl rfl) rfl rfl hl.1 rfl (lv_room (Nat.le_of_ble_eq_true rfl)) dX1_lost_11 ⟨Nat.zero_le _, Nat.zero_le _⟩) ?_
    refine W.eq (g2 := F0 m 14 ls [.int (bI (pL S (16 * r + z)))]) rfl ?_
    refine xx_if0 (tgt := 21) hx hb dX1_lost_14 (by decide) (fun h2 => ?_) (fun h2 => ?_)
    · skip
      refine lv_iconst (v := nI 0) hx hb dX1_lost_21 (by decide) ?_
      exact W.zret (v := (nI (0))) (ty := .boolean) hx hb hr (rfl) (fun t ht hW => ⟨ro_i (((pr2_t hr10 hz16).trans (bI_f h2)).symm), ht⟩) (fun _ h => absurd h List.not_mem_nil) dX1_lost_22
    · skip
      refine lv_iconst (v := nI 1) hx hb dX1_lost_17 (by decide) ?_
      refine lv_goto (tgt := 22) hx hb dX1_lost_18 (by decide) ?_
      exact W.zret (v := (nI (1))) (ty := .boolean) hx hb hr (rfl) (fun t ht hW => ⟨ro_i (((pr2_t hr10 hz16).trans (bI_t h2)).symm), ht⟩) (fun _ h => absurd h List.not_mem_nil) dX1_lost_22
set_option maxHeartbeats 4000000 in
set_option maxRecDepth 100000 in
theorem c1_said (l : Launch) (D : va_G) (ad : Nat → Nat) (ck : Nat → ClassId) (S : AS) (a : Nat) (hi : iv S) (x : Int32) : Met l yX1_said wsX1_said ({ frames := 0, cells := 0, slots := 0, locals := 0 }) (PW D (wM ad ck S a) (tyM ck) [.ref (ad 0), .int (x)]) (QcRead (aSaid S x)) 0 0 (fun _ => False) := by
  refine Met.ofW (cc := cX1_said) (maxL := 2) (ret := (some .int)) (by decide) rfl ?_
  intro p e s m args below meth c s₁ B hml hv
  obtain ⟨rfl, hP, hK⟩ := hv
  have hx := B.exec
  have hb := B.bytes
  have hr := B.returns
  have hts := atoms_spec (ws := wsX1_said) B.pre
  have hown : s.vm.findClass RX1 = some m.cls := findClass_of_methodNamed B.named
  have hlocks := B.notSynchronized
  have hin0 : ∀ w ∈ wsX10, w ∈ wsX1_said := by decide +kernel
  have hl := lv_entry ([.ref (ad 0), .int (x)]) (n := 2) (Nat.le_of_ble_eq_true rfl)
  rw [lg_entry_eq]
  generalize (lg_sl ([.ref (ad 0), .int (x)]) ++ List.replicate (2 - (lg_sl ([.ref (ad 0), .int (x)])).length) Slot.unset).toArray = ls at hl ⊢
  have hl : lv_has ls 2 [(0, .ref (ad 0)), (1, .int (x))] := hl
  have hN := hi.2.2.2.2.1
  refine lv_iload_n hx hb dX1_said_0 rfl (lv_at hl 1 rfl) ?_
  refine lv_if_lt (tgt := 24) hx hb dX1_said_1 (by decide) (fun h1 => ?_) (fun h1 => ?_)
  · skip
    refine lv_iconst (v := -1) hx hb dX1_said_24 (by decide) ?_
    exact W.iret (v := (-1)) hx hb hr (fun t ht hW => ⟨ro_i ((pr1_f (inR_f1 h1)).symm), ht⟩) (fun _ h => absurd h List.not_mem_nil) dX1_said_25
  · skip
    refine lv_iload_n hx hb dX1_said_4 rfl (lv_at hl 1 rfl) ?_
    refine lv_aload_n hx hb dX1_said_5 rfl (lv_at hl 0 rfl) ?_
    refine va_get (D := D) (ci := 1) (v := .int (nI (sN S))) (C := RX1) (T := TX1) (N := 11) hx hb hts hin0 hown hK hP 0 rfl rfl 10 (by decide) (hts (.fieldLink RX1 62 "ClaimBenchModel" "many" "I") (by decide +kernel)) (fun _ h9 => h9) rfl dX1_said_6 ?_
    refine lv_icmp_ge (tgt := 24) hx hb dX1_said_9 (by decide) (fun h2 => ?_) (fun h2 => ?_)
    · skip
      refine lv_iconst (v := -1) hx hb dX1_said_24 (by decide) ?_
      exact W.iret (v := (-1)) hx hb hr (fun t ht hW => ⟨ro_i ((pr1_f (inR_f2 h2)).symm), ht⟩) (fun _ h => absurd h List.not_mem_nil) dX1_said_25
    · skip
      obtain ⟨j, hj, rfl⟩ := inR_t (by omega) (inR_mk h1 h2)
      have hRj := hi.2.2.2.2.2 j
      refine lv_aload_n hx hb dX1_said_12 rfl (lv_at hl 0 rfl) ?_
      refine va_get (D := D) (ci := 1) (v := .ref (ad 8)) (C := RX1) (T := TX1) (N := 11) hx hb hts hin0 hown hK hP 0 rfl rfl 9 (by decide) (hts (.fieldLink RX1 32 "ClaimBenchModel" "row" "[I") (by decide +kernel)) (fun _ h9 => h9) rfl dX1_said_13 ?_
      refine lv_iload_n hx hb dX1_said_16 rfl (lv_at hl 1 rfl) ?_
      refine xx_ald hx hb hK hP 8 7 (fun c_ => nI (sR S c_)) rfl rfl (j := j) (by omega) (by decide) dX1_said_17 ?_
      refine W.eq (g2 := F0 m 18 ls [.int (nI (sR S j))]) rfl ?_
      refine lv_bipush (v := nI 100) hx hb dX1_said_18 (by decide) ?_
      refine xx_rem hx hb dX1_said_20 (by omega) (by decide) (by decide) ?_
      refine lv_goto (tgt := 25) hx hb dX1_said_21 (by decide) ?_
      exact W.iret (v := (nI ((sR S j) % 100))) hx hb hr (fun t ht hW => ⟨ro_i (by unfold aSaid; rw [pr1_t (by omega) hj]), ht⟩) (fun _ h => absurd h List.not_mem_nil) dX1_said_25
end
section
theorem sw_4 {x : Int32} (h0 : ¬ x = 0) (h1 : ¬ x = 1) (h2 : ¬ x = 2) (h3 : ¬ x = 3) : x.toInt < 0 ∨ 3 < x.toInt := by
  have g : ∀ y : Int32, ¬ x = y → x.toInt ≠ y.toInt := fun y h e => h (Int32.toInt_inj.mp e)
  have e0 := g 0 h0
  have e1 := g 1 h1
  have e2 := g 2 h2
  have e3 := g 3 h3
  have f0 : (0 : Int32).toInt = 0 := by decide
  have f1 : (1 : Int32).toInt = 1 := by decide
  have f2 : (2 : Int32).toInt = 2 := by decide
  have f3 : (3 : Int32).toInt = 3 := by decide
  omega
set_option maxHeartbeats 4000000 in
set_option maxRecDepth 100000 in
theorem c0_sends (l : Launch) (D : va_G) (ad : Nat → Nat) (ck : Nat → ClassId) (S : AS) (a : Nat) (hi : iv S) (x : Int32) : Met l yX0_sends wsX0_sends ({ frames := 4, cells := 0, slots := 0, locals := 86 }) (PW D (wB ad ck S a) (tyB ck) [.ref (ad 0), .int (x)]) (QcRead (aSends S x)) 0 0 (fun _ => False) := by
  refine Met.ofW (cc := cX0_sends) (maxL := 4) (ret := (some .int)) (by decide) rfl ?_
  intro p e s m args below meth c s₁ B hml hv
  obtain ⟨rfl, hP, hK⟩ := hv
  have hx := B.exec
  have hb := B.bytes
  have hr := B.returns
  have hts := atoms_spec (ws := wsX0_sends) B.pre
  have hown : s.vm.findClass RX0 = some m.cls := findClass_of_methodNamed B.named
  have hlocks := B.notSynchronized
  have hin0 : ∀ w ∈ wsX00, w ∈ wsX0_sends := by decide +kernel
  have hl := lv_entry ([.ref (ad 0), .int (x)]) (n := 4) (Nat.le_of_ble_eq_true rfl)
  rw [lg_entry_eq]
  generalize (lg_sl ([.ref (ad 0), .int (x)]) ++ List.replicate (4 - (lg_sl ([.ref (ad 0), .int (x)])).length) Slot.unset).toArray = ls at hl ⊢
  have hl : lv_has ls 4 [(0, .ref (ad 0)), (1, .int (x))] := hl
  refine lv_iload_n hx hb dX0_sends_0 rfl (lv_at hl 1 rfl) ?_
  refine W.callR (W.runS (As := [.int (x)]) (rest := []) ⟨hx, hb, hml, hown, hts⟩ (c0_isSource l ((x))) (va_cwS 1 hts gX0_sends_X0_isSource rfl rfl rfl (by decide +kernel) ⟨Nat.le_of_ble_eq_true rfl, Nat.le_of_ble_eq_true rfl⟩) preEq rfl rfl hl.1 rfl (lv_room (Nat.le_of_ble_eq_true rfl)) dX0_sends_1 ⟨Nat.zero_le _, Nat.zero_le _⟩) ?_
  refine W.eq (g2 := F0 m 4 ls [.int (bI (inR 16 ((x))))]) rfl ?_
  refine xx_if1 (tgt := 9) hx hb dX0_sends_4 (by decide) (fun h1 => ?_) (fun h1 => ?_)
  · skip
    obtain ⟨z, hz16, rfl⟩ := inR_t (by decide) h1
    refine lv_iconst (v := nI 0) hx hb dX0_sends_9 (by decide) ?_
    refine lv_istore_n (lv' := [(2, .int (nI (0))), (0, .ref (ad 0)), (1, .int (nI (z)))]) hx hb dX0_sends_10 rfl hl (by decide) rfl (fun ls hl => ?_)
    refine lv_iconst (v := nI 0) hx hb dX0_sends_11 (by decide) ?_
    refine lv_istore_n (lv' := [(3, .int (nI (0))), (2, .int (nI (0))), (0, .ref (ad 0)), (1, .int (nI (z)))]) hx hb dX0_sends_12 rfl hl (by decide) rfl (fun ls hl => ?_)
    have loop : ∀ (n q : Nat), 10 < q + n → q ≤ 10 → ∀ (ls : Array Slot), lv_has ls 4 [(3, .int (nI (q))), (2, .int (nI (bm (fun j => decide (j < q) && pS S j z)))), (0, .ref (ad 0)), (1, .int (nI (z)))] → W p l e (headSpec wsX0_sends ({ frames := 4, cells := 0, slots := 0, locals := 86 })).room s m ([.ref (ad 0), .int (nI (z))] : List Value).toArray below meth c s.heap [] 0 0 (MQ below (QcRead (aSends S (nI z))) ([.ref (ad 0), .int (nI (z))] : List Value).toArray s 0 0 (fun _ => False)) (F0 m 13 ls []) := by
      intro n
      induction n with
      | zero => exact fun q h1 h2 => absurd h1 (by omega)
      | succ n ih =>
        intro q hq1 hq2 ls hl
        refine lv_iload_n hx hb dX0_sends_13 rfl (lv_at hl 0 rfl) ?_
        refine lv_bipush (v := nI 10) hx hb dX0_sends_14 (by decide) ?_
        refine xx_ge (tgt := 37) hx hb dX0_sends_16 (by decide) (by omega) (by omega) (fun h2 => ?_) (fun h2 => ?_)
        · skip
          refine lv_iload_n hx hb dX0_sends_37 rfl (lv_at hl 1 rfl) ?_
          exact W.iret (v := (nI (bm (fun j => decide (j < q) && pS S j z)))) hx hb hr (fun t ht hW => ⟨ro_i (by obtain rfl : q = 10 := (by omega); unfold aSends; rw [pr1_t (by decide) hz16, bm_all]), ht⟩) (fun _ h => absurd h List.not_mem_nil) dX0_sends_38
        · skip
          refine lv_iload_n hx hb dX0_sends_19 rfl (lv_at hl 1 rfl) ?_
          refine lv_iload_n hx hb dX0_sends_20 rfl (lv_at hl 0 rfl) ?_
          refine lv_aload_n hx hb dX0_sends_21 rfl (lv_at hl 2 rfl) ?_
          refine lv_iload_n hx hb dX0_sends_22 rfl (lv_at hl 0 rfl) ?_
          refine lv_iload_n hx hb dX0_sends_23 rfl (lv_at hl 3 rfl) ?_
          refine W.callR (W.runV (As := [.int (nI (q)), .int (nI (z))]) (rest := [.int (nI (q)), .int (nI (bm (fun j => decide (j < q) && pS S j z)))]) ⟨hx, hb, hml, hown, hts⟩ (c0_isSender l D ad ck S a hi q z (by omega) (by omega)) (cwV 2 hts gX0_sends_X0_isSender rfl rfl rfl (by decide +kernel) ⟨Nat.le_of_ble_eq_true rfl, Nat.le_of_ble_eq_true rfl⟩) (PW_pre hK hP (ci := 0) rfl rfl) rfl rfl hl.1 rfl (lv_room (Nat.le_of_ble_eq_true rfl)) dX0_sends_24 ⟨Nat.zero_le _, Nat.zero_le _⟩) ?_
          refine W.eq (g2 := F0 m 27 ls [.int (bI (pS S q z)), .int (nI (q)), .int (nI (bm (fun j => decide (j < q) && pS S j z)))]) rfl ?_
          refine W.callR (W.runS (As := [.int (nI (bm (fun j => decide (j < q) && pS S j z))), .int (nI (q)), .int (bI (pS S q z))]) (rest := []) ⟨hx, hb, hml, hown, hts⟩ (c0_withBit l (fun j => decide (j < q) && pS S j z) q (pS S q z) (by omega)) (va_cwS 3 hts gX0_sends_X0_withBit rfl rfl rfl (by decide +kernel) ⟨Nat.le_of_ble_eq_true rfl, Nat.le_of_ble_eq_true rfl⟩) preEq rfl rfl hl.1 rfl (lv_room (Nat.le_of_ble_eq_true rfl)) dX0_sends_27 ⟨Nat.zero_le _, Nat.zero_le _⟩) ?_
          refine W.eq (g2 := F0 m 30 ls [.int (nI (bm (upB (fun j => decide (j < q) && pS S j z) q (pS S q z))))]) rfl ?_
          refine lv_istore_n (lv' := [(2, .int (nI (bm (upB (fun j => decide (j < q) && pS S j z) q (pS S q z))))), (3, .int (nI (q))), (0, .ref (ad 0)), (1, .int (nI (z)))]) hx hb dX0_sends_30 rfl hl (by decide) rfl (fun ls hl => ?_)
          refine lv_iinc (v := nI (q + 1)) (lv' := [(3, .int (nI (q + 1))), (2, .int (nI (bm (upB (fun j => decide (j < q) && pS S j z) q (pS S q z))))), (0, .ref (ad 0)), (1, .int (nI (z)))]) hx hb dX0_sends_31 hl (k := 1) rfl (nI_1 _) (by decide) rfl (fun ls hl => ?_)
          refine lv_goto (tgt := 13) hx hb dX0_sends_34 (by decide) ?_
          have e9 : bm (upB (fun j => decide (j < q) && pS S j z) q (pS S q z)) = bm (fun j => decide (j < q + 1) && pS S j z) := bm_step (f := fun j => pS S j z) rfl
          rw [e9] at hl
          exact ih (q + 1) (by omega) (by omega) ls (lv_sub hl [0, 1, 2, 3] rfl)
    exact loop 11 0 (by omega) (by omega) ls (lv_sub hl [0, 1, 2, 3] rfl)
  · skip
    refine lv_iconst (v := -1) hx hb dX0_sends_7 (by decide) ?_
    exact W.iret (v := (-1)) hx hb hr (fun t ht hW => ⟨ro_i ((pr1_f h1).symm), ht⟩) (fun _ h => absurd h List.not_mem_nil) dX0_sends_8
set_option maxHeartbeats 4000000 in
set_option maxRecDepth 100000 in
theorem c1_sends (l : Launch) (D : va_G) (ad : Nat → Nat) (ck : Nat → ClassId) (S : AS) (a : Nat) (hi : iv S) (x : Int32) : Met l yX1_sends wsX1_sends ({ frames := 3, cells := 0, slots := 0, locals := 68 }) (PW D (wM ad ck S a) (tyM ck) [.ref (ad 0), .int (x)]) (QcRead (aSends S x)) 0 0 (fun _ => False) := by
  refine Met.ofW (cc := cX1_sends) (maxL := 4) (ret := (some .int)) (by decide) rfl ?_
  intro p e s m args below meth c s₁ B hml hv
  obtain ⟨rfl, hP, hK⟩ := hv
  have hx := B.exec
  have hb := B.bytes
  have hr := B.returns
  have hts := atoms_spec (ws := wsX1_sends) B.pre
  have hown : s.vm.findClass RX1 = some m.cls := findClass_of_methodNamed B.named
  have hlocks := B.notSynchronized
  have hin0 : ∀ w ∈ wsX10, w ∈ wsX1_sends := by decide +kernel
  have hl := lv_entry ([.ref (ad 0), .int (x)]) (n := 4) (Nat.le_of_ble_eq_true rfl)
  rw [lg_entry_eq]
  generalize (lg_sl ([.ref (ad 0), .int (x)]) ++ List.replicate (4 - (lg_sl ([.ref (ad 0), .int (x)])).length) Slot.unset).toArray = ls at hl ⊢
  have hl : lv_has ls 4 [(0, .ref (ad 0)), (1, .int (x))] := hl
  refine lv_iconst (v := nI 0) hx hb dX1_sends_0 (by decide) ?_
  refine lv_iload_n hx hb dX1_sends_1 rfl (lv_at hl 1 rfl) ?_
  refine W.callR (W.runS (As := [.int (nI (0)), .int (x)]) (rest := []) ⟨hx, hb, hml, hown, hts⟩ (c1_isPair l ((nI (0))) ((x))) (va_cwS 2 hts gX1_sends_X1_isPair rfl rfl rfl (by decide +kernel) ⟨Nat.le_of_ble_eq_true rfl, Nat.le_of_ble_eq_true rfl⟩) preEq rfl rfl hl.1 rfl (lv_room (Nat.le_of_ble_eq_true rfl)) dX1_sends_2 ⟨Nat.zero_le _, Nat.zero_le _⟩) ?_
  refine W.eq (g2 := F0 m 5 ls [.int (bI (inR 10 ((nI (0))) && inR 16 ((x))))]) rfl ?_
  refine xx_if1 (tgt := 10) hx hb dX1_sends_5 (by decide) (fun h1 => ?_) (fun h1 => ?_)
  · skip
    have hp2 := ((Bool.and_eq_true _ _).mp h1).2
    obtain ⟨z, hz16, rfl⟩ := inR_t (by decide) hp2
    refine lv_iconst (v := nI 0) hx hb dX1_sends_10 (by decide) ?_
    refine lv_istore_n (lv' := [(2, .int (nI (0))), (0, .ref (ad 0)), (1, .int (nI (z)))]) hx hb dX1_sends_11 rfl hl (by decide) rfl (fun ls hl => ?_)
    refine lv_iconst (v := nI 0) hx hb dX1_sends_12 (by decide) ?_
    refine lv_istore_n (lv' := [(3, .int (nI (0))), (2, .int (nI (0))), (0, .ref (ad 0)), (1, .int (nI (z)))]) hx hb dX1_sends_13 rfl hl (by decide) rfl (fun ls hl => ?_)
    have loop : ∀ (n q : Nat), 10 < q + n → q ≤ 10 → ∀ (ls : Array Slot), lv_has ls 4 [(3, .int (nI (q))), (2, .int (nI (bm (fun j => decide (j < q) && pS S j z)))), (0, .ref (ad 0)), (1, .int (nI (z)))] → W p l e (headSpec wsX1_sends ({ frames := 3, cells := 0, slots := 0, locals := 68 })).room s m ([.ref (ad 0), .int (nI (z))] : List Value).toArray below meth c s.heap [] 0 0 (MQ below (QcRead (aSends S (nI z))) ([.ref (ad 0), .int (nI (z))] : List Value).toArray s 0 0 (fun _ => False)) (F0 m 14 ls []) := by
      intro n
      induction n with
      | zero => exact fun q h1 h2 => absurd h1 (by omega)
      | succ n ih =>
        intro q hq1 hq2 ls hl
        refine lv_iload_n hx hb dX1_sends_14 rfl (lv_at hl 0 rfl) ?_
        refine lv_bipush (v := nI 10) hx hb dX1_sends_15 (by decide) ?_
        refine xx_ge (tgt := 41) hx hb dX1_sends_17 (by decide) (by omega) (by omega) (fun h2 => ?_) (fun h2 => ?_)
        · skip
          refine lv_iload_n hx hb dX1_sends_41 rfl (lv_at hl 1 rfl) ?_
          exact W.iret (v := (nI (bm (fun j => decide (j < q) && pS S j z)))) hx hb hr (fun t ht hW => ⟨ro_i (by obtain rfl : q = 10 := (by omega); unfold aSends; rw [pr1_t (by decide) hz16, bm_all]), ht⟩) (fun _ h => absurd h List.not_mem_nil) dX1_sends_42
        · skip
          refine lv_aload_n hx hb dX1_sends_20 rfl (lv_at hl 2 rfl) ?_
          refine lv_iload_n hx hb dX1_sends_21 rfl (lv_at hl 0 rfl) ?_
          refine lv_iload_n hx hb dX1_sends_22 rfl (lv_at hl 3 rfl) ?_
          refine W.callR (W.runV (As := [.int (nI (q)), .int (nI (z))]) (rest := []) ⟨hx, hb, hml, hown, hts⟩ (c1_isSending l D ad ck S a hi q z (by omega) (by omega)) (cwV 2 hts gX1_sends_X1_isSending rfl rfl rfl (by decide +kernel) ⟨Nat.le_of_ble_eq_true rfl, Nat.le_of_ble_eq_true rfl⟩) (PW_pre hK hP (ci := 1) rfl rfl) rfl rfl hl.1 rfl (lv_room (Nat.le_of_ble_eq_true rfl)) dX1_sends_23 ⟨Nat.zero_le _, Nat.zero_le _⟩) ?_
          refine W.eq (g2 := F0 m 26 ls [.int (bI (pS S q z))]) rfl ?_
          refine xx_if0 (tgt := 35) hx hb dX1_sends_26 (by decide) (fun h3 => ?_) (fun h3 => ?_)
          · skip
            refine lv_iinc (v := nI (q + 1)) (lv' := [(3, .int (nI (q + 1))), (2, .int (nI (bm (fun j => decide (j < q) && pS S j z)))), (0, .ref (ad 0)), (1, .int (nI (z)))]) hx hb dX1_sends_35 hl (k := 0) rfl (nI_1 _) (by decide) rfl (fun ls hl => ?_)
            refine lv_goto (tgt := 14) hx hb dX1_sends_38 (by decide) ?_
            have e9 : bm (fun j => decide (j < q) && pS S j z) = bm (fun j => decide (j < q + 1) && pS S j z) := bm_skip (f := fun j => pS S j z) h3
            rw [e9] at hl
            exact ih (q + 1) (by omega) (by omega) ls (lv_sub hl [0, 1, 2, 3] rfl)
          · skip
            refine lv_iload_n hx hb dX1_sends_29 rfl (lv_at hl 1 rfl) ?_
            refine lv_iconst (v := nI 1) hx hb dX1_sends_30 (by decide) ?_
            refine lv_iload_n hx hb dX1_sends_31 rfl (lv_at hl 0 rfl) ?_
            refine lv_ishl hx hb dX1_sends_32 ?_
            refine lv_ior hx hb dX1_sends_33 ?_
            refine lv_istore_n (lv' := [(2, .int (nI (bm (fun j => decide (j < q) && pS S j z)) ||| (nI (1) <<< (nI (q) &&& 31)))), (3, .int (nI (q))), (0, .ref (ad 0)), (1, .int (nI (z)))]) hx hb dX1_sends_34 rfl hl (by decide) rfl (fun ls hl => ?_)
            refine lv_iinc (v := nI (q + 1)) (lv' := [(3, .int (nI (q + 1))), (2, .int (nI (bm (fun j => decide (j < q) && pS S j z)) ||| (nI (1) <<< (nI (q) &&& 31)))), (0, .ref (ad 0)), (1, .int (nI (z)))]) hx hb dX1_sends_35 hl (k := 1) rfl (nI_1 _) (by decide) rfl (fun ls hl => ?_)
            refine lv_goto (tgt := 14) hx hb dX1_sends_38 (by decide) ?_
            have e9 : nI (bm (fun j => decide (j < q) && pS S j z)) ||| (nI (1) <<< (nI (q) &&& 31)) = nI (bm (fun j => decide (j < q + 1) && pS S j z)) := (bm_on _ (by omega)).trans (congrArg nI (bm_step (f := fun j => pS S j z) h3))
            rw [e9] at hl
            exact ih (q + 1) (by omega) (by omega) ls (lv_sub hl [0, 1, 2, 3] rfl)
    exact loop 11 0 (by omega) (by omega) ls (lv_sub hl [0, 1, 2, 3] rfl)
  · skip
    rw [inR_n (by decide) (by decide), Bool.true_and] at h1
    refine lv_iconst (v := -1) hx hb dX1_sends_8 (by decide) ?_
    exact W.iret (v := (-1)) hx hb hr (fun t ht hW => ⟨ro_i ((pr1_f h1).symm), ht⟩) (fun _ h => absurd h List.not_mem_nil) dX1_sends_9
set_option maxHeartbeats 4000000 in
set_option maxRecDepth 100000 in
theorem c1_look (l : Launch) (D : va_G) (ad : Nat → Nat) (ck : Nat → ClassId) (S : AS) (a : Nat) (hi : iv S) (x : Int32) : Met l yX1_look wsX1_look ({ frames := 0, cells := 0, slots := 0, locals := 0 }) (PW D (wM ad ck S a) (tyM ck) [.ref (ad 0), .int (x)]) (QcRead (aLook S a x)) 0 0 (fun _ => False) := by
  refine Met.ofW (cc := cX1_look) (maxL := 5) (ret := (some .int)) (by decide) rfl ?_
  intro p e s m args below meth c s₁ B hml hv
  obtain ⟨rfl, hP, hK⟩ := hv
  have hx := B.exec
  have hb := B.bytes
  have hr := B.returns
  have hts := atoms_spec (ws := wsX1_look) B.pre
  have hown : s.vm.findClass RX1 = some m.cls := findClass_of_methodNamed B.named
  have hlocks := B.notSynchronized
  have hin0 : ∀ w ∈ wsX10, w ∈ wsX1_look := by decide +kernel
  have hl := lv_entry ([.ref (ad 0), .int (x)]) (n := 5) (Nat.le_of_ble_eq_true rfl)
  rw [lg_entry_eq]
  generalize (lg_sl ([.ref (ad 0), .int (x)]) ++ List.replicate (5 - (lg_sl ([.ref (ad 0), .int (x)])).length) Slot.unset).toArray = ls at hl ⊢
  have hl : lv_has ls 5 [(0, .ref (ad 0)), (1, .int (x))] := hl
  refine lv_iload_n hx hb dX1_look_0 rfl (lv_at hl 1 rfl) ?_
  refine lv_if_ne (tgt := 9) hx hb dX1_look_1 (by decide) (fun h1 => ?_) (fun h1 => ?_)
  · skip
    refine lv_iload_n hx hb dX1_look_9 rfl (lv_at hl 1 rfl) ?_
    refine lv_iconst (v := nI 3) hx hb dX1_look_10 (by decide) ?_
    refine lv_icmp_ne (tgt := 19) hx hb dX1_look_11 (by decide) (fun h2 => ?_) (fun h2 => ?_)
    · skip
      refine lv_iload_n hx hb dX1_look_19 rfl (lv_at hl 1 rfl) ?_
      refine lv_iconst (v := nI 1) hx hb dX1_look_20 (by decide) ?_
      refine lv_icmp_eq (tgt := 31) hx hb dX1_look_21 (by decide) (fun h3 => ?_) (fun h3 => ?_)
      · skip
        subst h3
        refine lv_iconst (v := nI 0) hx hb dX1_look_31 (by decide) ?_
        refine lv_istore_n (lv' := [(2, .int (nI (0))), (0, .ref (ad 0)), (1, .int (nI (1)))]) hx hb dX1_look_32 rfl hl (by decide) rfl (fun ls hl => ?_)
        refine lv_iconst (v := nI 0) hx hb dX1_look_33 (by decide) ?_
        refine lv_istore_n (lv' := [(3, .int (nI (0))), (2, .int (nI (0))), (0, .ref (ad 0)), (1, .int (nI (1)))]) hx hb dX1_look_34 rfl hl (by decide) rfl (fun ls hl => ?_)
        have loop : ∀ (n q : Nat), 10 < q + n → q ≤ 10 → ∀ (ls : Array Slot), lv_has ls 5 [(3, .int (nI (q))), (2, .int (nI (bm (fun j => decide (j < q) && !(sG S j))))), (0, .ref (ad 0)), (1, .int (nI (1)))] → W p l e (headSpec wsX1_look ({ frames := 0, cells := 0, slots := 0, locals := 0 })).room s m ([.ref (ad 0), .int (nI (1))] : List Value).toArray below meth c s.heap [] 0 0 (MQ below (QcRead (aLook S a (nI 1))) ([.ref (ad 0), .int (nI (1))] : List Value).toArray s 0 0 (fun _ => False)) (F0 m 35 ls []) := by
          intro n
          induction n with
          | zero => exact fun q h1 h2 => absurd h1 (by omega)
          | succ n ih =>
            intro q hq1 hq2 ls hl
            refine lv_iload_n hx hb dX1_look_35 rfl (lv_at hl 0 rfl) ?_
            refine lv_bipush (v := nI 10) hx hb dX1_look_36 (by decide) ?_
            refine xx_ge (tgt := 88) hx hb dX1_look_38 (by decide) (by omega) (by omega) (fun h4 => ?_) (fun h4 => ?_)
            · skip
              refine lv_iload_n hx hb dX1_look_88 rfl (lv_at hl 1 rfl) ?_
              exact W.iret (v := (nI (bm (fun j => decide (j < q) && !(sG S j))))) hx hb hr (fun t ht hW => ⟨ro_i (by obtain rfl : q = 10 := (by omega); unfold aLook; rw [if_neg (by decide), if_pos (by decide), bm_all]), ht⟩) (fun _ h => absurd h List.not_mem_nil) dX1_look_89
            · skip
              refine lv_iload_n hx hb dX1_look_41 rfl (lv_at hl 3 rfl) ?_
              refine lv_iconst (v := nI 1) hx hb dX1_look_42 (by decide) ?_
              refine lv_icmp_ne (tgt := 63) hx hb dX1_look_43 (by decide) (fun h => absurd h (by decide)) (fun _ => ?_)
              refine lv_aload_n hx hb dX1_look_46 rfl (lv_at hl 2 rfl) ?_
              refine va_get (D := D) (ci := 1) (v := .ref (ad 1)) (C := RX1) (T := TX1) (N := 11) hx hb hts hin0 hown hK hP 0 rfl rfl 2 (by decide) (hts (.fieldLink RX1 7 "ClaimBenchModel" "isGone" "[Z") (by decide +kernel)) (fun _ h9 => h9) rfl dX1_look_47 ?_
              refine lv_iload_n hx hb dX1_look_50 rfl (lv_at hl 0 rfl) ?_
              refine xx_zld hx hb hK hP 1 0 (fun c_ => bI (sG S c_)) rfl rfl (j := q) (by omega) (by decide) dX1_look_51 ?_
              refine W.eq (g2 := F0 m 52 ls [.int (bI (sG S q))]) rfl ?_
              refine xx_if1 (tgt := 59) hx hb dX1_look_52 (by decide) (fun h5 => ?_) (fun h5 => ?_)
              · skip
                refine lv_iconst (v := nI 0) hx hb dX1_look_59 (by decide) ?_
                refine lv_goto (tgt := 69) hx hb dX1_look_60 (by decide) ?_
                refine lv_istore (lv' := [(4, .int (nI (0))), (3, .int (nI (q))), (2, .int (nI (bm (fun j => decide (j < q) && !(sG S j))))), (0, .ref (ad 0)), (1, .int (nI (1)))]) hx hb dX1_look_69 hl (by decide) rfl (fun ls hl => ?_)
                refine lv_iload hx hb dX1_look_71 (lv_at hl 0 rfl) ?_
                refine lv_if_eq (tgt := 82) hx hb dX1_look_73 (by decide) (fun _ => ?_) (fun h => absurd h (by decide))
                refine lv_iinc (v := nI (q + 1)) (lv' := [(3, .int (nI (q + 1))), (4, .int (nI (0))), (2, .int (nI (bm (fun j => decide (j < q) && !(sG S j))))), (0, .ref (ad 0)), (1, .int (nI (1)))]) hx hb dX1_look_82 hl (k := 1) rfl (nI_1 _) (by decide) rfl (fun ls hl => ?_)
                refine lv_goto (tgt := 35) hx hb dX1_look_85 (by decide) ?_
                have e9 : bm (fun j => decide (j < q) && !(sG S j)) = bm (fun j => decide (j < q + 1) && !(sG S j)) := bm_skip (f := fun j => !(sG S j)) (by show (!(sG S q)) = _; rw [h5]; rfl)
                rw [e9] at hl
                exact ih (q + 1) (by omega) (by omega) ls (lv_sub hl [0, 2, 3, 4] rfl)
              · skip
                refine lv_iconst (v := nI 1) hx hb dX1_look_55 (by decide) ?_
                refine lv_goto (tgt := 69) hx hb dX1_look_56 (by decide) ?_
                refine lv_istore (lv' := [(4, .int (nI (1))), (3, .int (nI (q))), (2, .int (nI (bm (fun j => decide (j < q) && !(sG S j))))), (0, .ref (ad 0)), (1, .int (nI (1)))]) hx hb dX1_look_69 hl (by decide) rfl (fun ls hl => ?_)
                refine lv_iload hx hb dX1_look_71 (lv_at hl 0 rfl) ?_
                refine lv_if_eq (tgt := 82) hx hb dX1_look_73 (by decide) (fun h => absurd h (by decide)) (fun _ => ?_)
                refine lv_iload_n hx hb dX1_look_76 rfl (lv_at hl 2 rfl) ?_
                refine lv_iconst (v := nI 1) hx hb dX1_look_77 (by decide) ?_
                refine lv_iload_n hx hb dX1_look_78 rfl (lv_at hl 1 rfl) ?_
                refine lv_ishl hx hb dX1_look_79 ?_
                refine lv_ior hx hb dX1_look_80 ?_
                refine lv_istore_n (lv' := [(2, .int (nI (bm (fun j => decide (j < q) && !(sG S j))) ||| (nI (1) <<< (nI (q) &&& 31)))), (4, .int (nI (1))), (3, .int (nI (q))), (0, .ref (ad 0)), (1, .int (nI (1)))]) hx hb dX1_look_81 rfl hl (by decide) rfl (fun ls hl => ?_)
                refine lv_iinc (v := nI (q + 1)) (lv' := [(3, .int (nI (q + 1))), (2, .int (nI (bm (fun j => decide (j < q) && !(sG S j))) ||| (nI (1) <<< (nI (q) &&& 31)))), (4, .int (nI (1))), (0, .ref (ad 0)), (1, .int (nI (1)))]) hx hb dX1_look_82 hl (k := 2) rfl (nI_1 _) (by decide) rfl (fun ls hl => ?_)
                refine lv_goto (tgt := 35) hx hb dX1_look_85 (by decide) ?_
                have e9 : nI (bm (fun j => decide (j < q) && !(sG S j))) ||| (nI (1) <<< (nI (q) &&& 31)) = nI (bm (fun j => decide (j < q + 1) && !(sG S j))) := (bm_on _ (by omega)).trans (congrArg nI (bm_step (f := fun j => !(sG S j)) (by show (!(sG S q)) = _; rw [h5]; rfl)))
                rw [e9] at hl
                exact ih (q + 1) (by omega) (by omega) ls (lv_sub hl [0, 1, 3, 4] rfl)
        exact loop 11 0 (by omega) (by omega) ls (lv_sub hl [0, 1, 2, 3] rfl)
      · skip
        refine lv_iload_n hx hb dX1_look_24 rfl (lv_at hl 1 rfl) ?_
        refine lv_iconst (v := nI 2) hx hb dX1_look_25 (by decide) ?_
        refine lv_icmp_eq (tgt := 31) hx hb dX1_look_26 (by decide) (fun h6 => ?_) (fun h6 => ?_)
        · skip
          subst h6
          refine lv_iconst (v := nI 0) hx hb dX1_look_31 (by decide) ?_
          refine lv_istore_n (lv' := [(2, .int (nI (0))), (0, .ref (ad 0)), (1, .int (nI (2)))]) hx hb dX1_look_32 rfl hl (by decide) rfl (fun ls hl => ?_)
          refine lv_iconst (v := nI 0) hx hb dX1_look_33 (by decide) ?_
          refine lv_istore_n (lv' := [(3, .int (nI (0))), (2, .int (nI (0))), (0, .ref (ad 0)), (1, .int (nI (2)))]) hx hb dX1_look_34 rfl hl (by decide) rfl (fun ls hl => ?_)
          have loop : ∀ (n q : Nat), 10 < q + n → q ≤ 10 → ∀ (ls : Array Slot), lv_has ls 5 [(3, .int (nI (q))), (2, .int (nI (bm (fun j => decide (j < q) && sD S j)))), (0, .ref (ad 0)), (1, .int (nI (2)))] → W p l e (headSpec wsX1_look ({ frames := 0, cells := 0, slots := 0, locals := 0 })).room s m ([.ref (ad 0), .int (nI (2))] : List Value).toArray below meth c s.heap [] 0 0 (MQ below (QcRead (aLook S a (nI 2))) ([.ref (ad 0), .int (nI (2))] : List Value).toArray s 0 0 (fun _ => False)) (F0 m 35 ls []) := by
            intro n
            induction n with
            | zero => exact fun q h1 h2 => absurd h1 (by omega)
            | succ n ih =>
              intro q hq1 hq2 ls hl
              refine lv_iload_n hx hb dX1_look_35 rfl (lv_at hl 0 rfl) ?_
              refine lv_bipush (v := nI 10) hx hb dX1_look_36 (by decide) ?_
              refine xx_ge (tgt := 88) hx hb dX1_look_38 (by decide) (by omega) (by omega) (fun h7 => ?_) (fun h7 => ?_)
              · skip
                refine lv_iload_n hx hb dX1_look_88 rfl (lv_at hl 1 rfl) ?_
                exact W.iret (v := (nI (bm (fun j => decide (j < q) && sD S j)))) hx hb hr (fun t ht hW => ⟨ro_i (by obtain rfl : q = 10 := (by omega); unfold aLook; rw [if_neg (by decide), if_neg (by decide), if_pos (by decide), bm_all]), ht⟩) (fun _ h => absurd h List.not_mem_nil) dX1_look_89
              · skip
                refine lv_iload_n hx hb dX1_look_41 rfl (lv_at hl 3 rfl) ?_
                refine lv_iconst (v := nI 1) hx hb dX1_look_42 (by decide) ?_
                refine lv_icmp_ne (tgt := 63) hx hb dX1_look_43 (by decide) (fun _ => ?_) (fun h => absurd h (by decide))
                refine lv_aload_n hx hb dX1_look_63 rfl (lv_at hl 2 rfl) ?_
                refine va_get (D := D) (ci := 1) (v := .ref (ad 2)) (C := RX1) (T := TX1) (N := 11) hx hb hts hin0 hown hK hP 0 rfl rfl 3 (by decide) (hts (.fieldLink RX1 13 "ClaimBenchModel" "isDeaf" "[Z") (by decide +kernel)) (fun _ h9 => h9) rfl dX1_look_64 ?_
                refine lv_iload_n hx hb dX1_look_67 rfl (lv_at hl 0 rfl) ?_
                refine xx_zld hx hb hK hP 2 1 (fun c_ => bI (sD S c_)) rfl rfl (j := q) (by omega) (by decide) dX1_look_68 ?_
                refine W.eq (g2 := F0 m 69 ls [.int (bI (sD S q))]) rfl ?_
                refine lv_istore (lv' := [(4, .int (bI (sD S q))), (3, .int (nI (q))), (2, .int (nI (bm (fun j => decide (j < q) && sD S j)))), (0, .ref (ad 0)), (1, .int (nI (2)))]) hx hb dX1_look_69 hl (by decide) rfl (fun ls hl => ?_)
                refine lv_iload hx hb dX1_look_71 (lv_at hl 0 rfl) ?_
                refine xx_if0 (tgt := 82) hx hb dX1_look_73 (by decide) (fun h8 => ?_) (fun h8 => ?_)
                · skip
                  refine lv_iinc (v := nI (q + 1)) (lv' := [(3, .int (nI (q + 1))), (4, .int (bI (sD S q))), (2, .int (nI (bm (fun j => decide (j < q) && sD S j)))), (0, .ref (ad 0)), (1, .int (nI (2)))]) hx hb dX1_look_82 hl (k := 1) rfl (nI_1 _) (by decide) rfl (fun ls hl => ?_)
                  refine lv_goto (tgt := 35) hx hb dX1_look_85 (by decide) ?_
                  have e9 : bm (fun j => decide (j < q) && sD S j) = bm (fun j => decide (j < q + 1) && sD S j) := bm_skip (f := fun j => sD S j) h8
                  rw [e9] at hl
                  exact ih (q + 1) (by omega) (by omega) ls (lv_sub hl [0, 2, 3, 4] rfl)
                · skip
                  refine lv_iload_n hx hb dX1_look_76 rfl (lv_at hl 2 rfl) ?_
                  refine lv_iconst (v := nI 1) hx hb dX1_look_77 (by decide) ?_
                  refine lv_iload_n hx hb dX1_look_78 rfl (lv_at hl 1 rfl) ?_
                  refine lv_ishl hx hb dX1_look_79 ?_
                  refine lv_ior hx hb dX1_look_80 ?_
                  refine lv_istore_n (lv' := [(2, .int (nI (bm (fun j => decide (j < q) && sD S j)) ||| (nI (1) <<< (nI (q) &&& 31)))), (4, .int (bI (sD S q))), (3, .int (nI (q))), (0, .ref (ad 0)), (1, .int (nI (2)))]) hx hb dX1_look_81 rfl hl (by decide) rfl (fun ls hl => ?_)
                  refine lv_iinc (v := nI (q + 1)) (lv' := [(3, .int (nI (q + 1))), (2, .int (nI (bm (fun j => decide (j < q) && sD S j)) ||| (nI (1) <<< (nI (q) &&& 31)))), (4, .int (bI (sD S q))), (0, .ref (ad 0)), (1, .int (nI (2)))]) hx hb dX1_look_82 hl (k := 2) rfl (nI_1 _) (by decide) rfl (fun ls hl => ?_)
                  refine lv_goto (tgt := 35) hx hb dX1_look_85 (by decide) ?_
                  have e9 : nI (bm (fun j => decide (j < q) && sD S j)) ||| (nI (1) <<< (nI (q) &&& 31)) = nI (bm (fun j => decide (j < q + 1) && sD S j)) := (bm_on _ (by omega)).trans (congrArg nI (bm_step (f := fun j => sD S j) h8))
                  rw [e9] at hl
                  exact ih (q + 1) (by omega) (by omega) ls (lv_sub hl [0, 1, 3, 4] rfl)
          exact loop 11 0 (by omega) (by omega) ls (lv_sub hl [0, 1, 2, 3] rfl)
        · skip
          refine lv_iconst (v := -1) hx hb dX1_look_29 (by decide) ?_
          exact W.iret (v := (-1)) hx hb hr (fun t ht hW => ⟨ro_i (by unfold aLook; rw [if_neg h1, if_neg (show ¬ x = 1 from h3), if_neg (show ¬ x = 2 from h6), if_neg (show ¬ x = 3 from h2)]), ht⟩) (fun _ h => absurd h List.not_mem_nil) dX1_look_30
    · skip
      subst h2
      refine lv_aload_n hx hb dX1_look_14 rfl (lv_at hl 0 rfl) ?_
      refine va_get (D := D) (ci := 1) (v := .int (nI (a))) (C := RX1) (T := TX1) (N := 11) hx hb hts hin0 hown hK hP 0 rfl rfl 1 (by decide) (hts (.fieldLink RX1 65 "ClaimBenchModel" "all" "I") (by decide +kernel)) (fun _ h9 => h9) rfl dX1_look_15 ?_
      exact W.iret (v := (nI (a))) hx hb hr (fun t ht hW => ⟨ro_i (by unfold aLook; rw [if_neg (by decide), if_neg (by decide), if_neg (by decide), if_pos (by decide)]), ht⟩) (fun _ h => absurd h List.not_mem_nil) dX1_look_18
  · skip
    subst h1
    refine lv_aload_n hx hb dX1_look_4 rfl (lv_at hl 0 rfl) ?_
    refine va_get (D := D) (ci := 1) (v := .int (nI (sT S))) (C := RX1) (T := TX1) (N := 11) hx hb hts hin0 hown hK hP 0 rfl rfl 0 (by decide) (hts (.fieldLink RX1 39 "ClaimBenchModel" "time" "I") (by decide +kernel)) (fun _ h9 => h9) rfl dX1_look_5 ?_
    exact W.iret (v := (nI (sT S))) hx hb hr (fun t ht hW => ⟨ro_i (by unfold aLook; rw [if_pos rfl]), ht⟩) (fun _ h => absurd h List.not_mem_nil) dX1_look_8
set_option maxHeartbeats 4000000 in
set_option maxRecDepth 100000 in
theorem c0_look (l : Launch) (D : va_G) (ad : Nat → Nat) (ck : Nat → ClassId) (S : AS) (a : Nat) (hi : iv S) (x : Int32) : Met l yX0_look wsX0_look ({ frames := 0, cells := 0, slots := 0, locals := 0 }) (PW D (wB ad ck S a) (tyB ck) [.ref (ad 0), .int (x)]) (QcRead (aLook S a x)) 0 0 (fun _ => False) := by
  refine Met.ofW (cc := cX0_look) (maxL := 2) (ret := (some .int)) (by decide) rfl ?_
  intro p e s m args below meth c s₁ B hml hv
  obtain ⟨rfl, hP, hK⟩ := hv
  have hx := B.exec
  have hb := B.bytes
  have hr := B.returns
  have hts := atoms_spec (ws := wsX0_look) B.pre
  have hown : s.vm.findClass RX0 = some m.cls := findClass_of_methodNamed B.named
  have hlocks := B.notSynchronized
  have hin0 : ∀ w ∈ wsX00, w ∈ wsX0_look := by decide +kernel
  have hl := lv_entry ([.ref (ad 0), .int (x)]) (n := 2) (Nat.le_of_ble_eq_true rfl)
  rw [lg_entry_eq]
  generalize (lg_sl ([.ref (ad 0), .int (x)]) ++ List.replicate (2 - (lg_sl ([.ref (ad 0), .int (x)])).length) Slot.unset).toArray = ls at hl ⊢
  have hl : lv_has ls 2 [(0, .ref (ad 0)), (1, .int (x))] := hl
  refine lv_iload_n hx hb dX0_look_0 rfl (lv_at hl 1 rfl) ?_
  by_cases e0 : x = 0
  · subst e0
    refine lv_tableIn (off := 31) (tgt := 32) hx hb dX0_look_1 (by decide) (by decide) (by decide) (by decide) ?_
    refine lv_aload_n hx hb dX0_look_32 rfl (lv_at hl 0 rfl) ?_
    refine va_get (D := D) (ci := 0) (v := .int (nI (sT S))) (C := RX0) (T := TX0) (N := 10) hx hb hts hin0 hown hK hP 0 rfl rfl 0 (by decide) (hts (.fieldLink RX0 7 "ClaimBench" "time" "I") (by decide +kernel)) (fun _ h9 => h9) rfl dX0_look_33 ?_
    exact W.iret (v := (nI (sT S))) hx hb hr (fun t ht hW => ⟨ro_i (by unfold aLook; rw [if_pos rfl]), ht⟩) (fun _ h => absurd h List.not_mem_nil) dX0_look_36
  by_cases e1 : x = 1
  · subst e1
    refine lv_tableIn (off := 36) (tgt := 37) hx hb dX0_look_1 (by decide) (by decide) (by decide) (by decide) ?_
    refine lv_aload_n hx hb dX0_look_37 rfl (lv_at hl 0 rfl) ?_
    refine va_get (D := D) (ci := 0) (v := .int (nI (bm (fun i_ => !(sG S i_))))) (C := RX0) (T := TX0) (N := 10) hx hb hts hin0 hown hK hP 0 rfl rfl 1 (by decide) (hts (.fieldLink RX0 13 "ClaimBench" "thereBits" "I") (by decide +kernel)) (fun _ h9 => h9) rfl dX0_look_38 ?_
    exact W.iret (v := (nI (bm (fun i_ => !(sG S i_))))) hx hb hr (fun t ht hW => ⟨ro_i (by unfold aLook; rw [if_neg (by decide), if_pos rfl]), ht⟩) (fun _ h => absurd h List.not_mem_nil) dX0_look_41
  by_cases e2 : x = 2
  · subst e2
    refine lv_tableIn (off := 41) (tgt := 42) hx hb dX0_look_1 (by decide) (by decide) (by decide) (by decide) ?_
    refine lv_aload_n hx hb dX0_look_42 rfl (lv_at hl 0 rfl) ?_
    refine va_get (D := D) (ci := 0) (v := .int (nI (bm (sD S)))) (C := RX0) (T := TX0) (N := 10) hx hb hts hin0 hown hK hP 0 rfl rfl 2 (by decide) (hts (.fieldLink RX0 16 "ClaimBench" "deafBits" "I") (by decide +kernel)) (fun _ h9 => h9) rfl dX0_look_43 ?_
    exact W.iret (v := (nI (bm (sD S)))) hx hb hr (fun t ht hW => ⟨ro_i (by unfold aLook; rw [if_neg (by decide), if_neg (by decide), if_pos rfl]), ht⟩) (fun _ h => absurd h List.not_mem_nil) dX0_look_46
  by_cases e3 : x = 3
  · subst e3
    refine lv_tableIn (off := 46) (tgt := 47) hx hb dX0_look_1 (by decide) (by decide) (by decide) (by decide) ?_
    refine lv_aload_n hx hb dX0_look_47 rfl (lv_at hl 0 rfl) ?_
    refine va_get (D := D) (ci := 0) (v := .int (nI (a))) (C := RX0) (T := TX0) (N := 10) hx hb hts hin0 hown hK hP 0 rfl rfl 3 (by decide) (hts (.fieldLink RX0 19 "ClaimBench" "saidInAll" "I") (by decide +kernel)) (fun _ h9 => h9) rfl dX0_look_48 ?_
    exact W.iret (v := (nI (a))) hx hb hr (fun t ht hW => ⟨ro_i (by unfold aLook; rw [if_neg (by decide), if_neg (by decide), if_neg (by decide), if_pos rfl]), ht⟩) (fun _ h => absurd h List.not_mem_nil) dX0_look_51
  refine lv_tableOut (tgt := 52) hx hb dX0_look_1 (sw_4 e0 e1 e2 e3) (by decide) ?_
  refine lv_iconst (v := -1) hx hb dX0_look_52 (by decide) ?_
  exact W.iret (v := (-1)) hx hb hr (fun t ht hW => ⟨ro_i (by unfold aLook; rw [if_neg e0, if_neg e1, if_neg e2, if_neg e3]), ht⟩) (fun _ h => absurd h List.not_mem_nil) dX0_look_53
end
section
-- ===== what a store makes of the world's functions =====
theorem st_n (f : Nat → Nat) (k v : Nat) : upd (fun c => nI (f c)) k (nI v) = fun c => nI (upN f k v c) := by
  funext j
  unfold upd upN
  by_cases h : j = k <;> simp [h]
theorem st_b (f : Nat → Bool) (k : Nat) (v : Bool) : upd (fun c => bI (f c)) k (bI v) = fun c => bI (upB f k v c) := by
  funext j
  unfold upd upB
  by_cases h : j = k <;> simp [h]
theorem st_fw (S : AS) (r z : Nat) (b : Bool) : upd (fun c => nI (bm (fun i => sF S i c))) z (nI (bm (upB (fun i => sF S i z) r b))) = fun c => nI (bm (fun i => upF (sF S) r z b i c)) := by
  funext j
  unfold upd
  by_cases h : j = z
  · subst h
    rw [if_pos rfl]
    exact congrArg nI (bm_congr (fun i _ => by unfold upB upF; by_cases hi : i = r <;> simp [hi]))
  · rw [if_neg h]
    exact congrArg nI (bm_congr (fun i _ => by unfold upF; rw [if_neg (fun q => h q.2)]))
theorem st_fm (S : AS) (r z : Nat) (b : Bool) (hz : z < 16) : upd (fun c => bI (sF S (c / 16) (c % 16))) (16 * r + z) (bI b) = fun c => bI (upF (sF S) r z b (c / 16) (c % 16)) := by
  funext j
  unfold upd upF
  by_cases h : j = 16 * r + z
  · rw [if_pos h, if_pos (by omega)]
  · rw [if_neg h, if_neg (by omega)]
theorem st_pl (S : AS) (r z d : Nat) (b : Bool) (hz : z < 16) : upd (fun c => nI (pO S c)) (16 * r + z) (nI ((if b then 0 else 1000000) + 100 * d + r)) = fun c => nI (pO (uI (uS S (upB (sS S) (16 * r + z) b)) (upN (sI S) (16 * r + z) d)) c) := by
  funext j
  unfold upd pO
  show _ = nI ((if upB (sS S) (16 * r + z) b j then 0 else 1000000) + 100 * upN (sI S) (16 * r + z) d j + j / 16)
  unfold upB upN
  by_cases h : j = 16 * r + z
  · rw [if_pos h, if_pos h, if_pos h, h, show (16 * r + z) / 16 = r by omega]
  · rw [if_neg h, if_neg h, if_neg h]
theorem st_th (f : Nat → Bool) (r : Nat) (b : Bool) : bm (upB (fun i => !(f i)) r b) = bm (fun i => !(upB f r (!b) i)) := by
  apply bm_congr
  intro j _
  unfold upB
  by_cases h : j = r <;> simp [h]
theorem st_row (S : AS) (k r X : Nat) (hX : X % 100 = r) : upd (fun c => nI (sR S c % 100)) k (nI r) = fun c => nI (upN (sR S) k X c % 100) := by
  funext j
  unfold upd upN
  by_cases h : j = k <;> simp [h, hX]
theorem st_km (S : AS) (k h : Nat) : upd (fun c => kM S c) k (nI h) = fun c => kM (uU (uC S (upN (sC S) k h)) (upN (sU S) k (sT S + 60))) c := by
  funext j
  unfold upd kM
  show _ = if upN (sU S) k (sT S + 60) j = 0 then -1 else nI (upN (sC S) k h j)
  unfold upN
  by_cases hj : j = k
  · rw [if_pos hj, if_pos hj, if_pos hj, if_neg (by omega)]
  · rw [if_neg hj, if_neg hj, if_neg hj]
-- ===== states by two numbers, by one =====
def ps2 (f : Nat → Nat → AS) (d : AS) (x y : Int32) : AS := if inR 10 x && inR 16 y then f x.toNatClampNeg y.toNatClampNeg else d
theorem ps2_t {f : Nat → Nat → AS} {d : AS} {r z : Nat} (hr : r < 10) (hz : z < 16) : ps2 f d (nI r) (nI z) = f r z := by
  unfold ps2
  rw [inR_n (by decide) hr, inR_n (by decide) hz, nI_clamp (by omega), nI_clamp (by omega)]
  rfl
theorem ps2_f {f : Nat → Nat → AS} {d : AS} {x y : Int32} (h : (inR 10 x && inR 16 y) = false) : ps2 f d x y = d := by unfold ps2; rw [h]; rfl
theorem ps2_f1 {f : Nat → Nat → AS} {d : AS} {x y : Int32} (h : inR 10 x = false) : ps2 f d x y = d := ps2_f (by rw [h]; rfl)
theorem ps2_f2 {f : Nat → Nat → AS} {d : AS} {x y : Int32} (h : inR 16 y = false) : ps2 f d x y = d := ps2_f (by rw [h, Bool.and_false])
def ps1 (n : Nat) (f : Nat → AS) (d : AS) (x : Int32) : AS := if inR n x then f x.toNatClampNeg else d
theorem ps1_t {n : Nat} {f : Nat → AS} {d : AS} {r : Nat} (hn : n < 2147483648) (hr : r < n) : ps1 n f d (nI r) = f r := by
  unfold ps1
  rw [inR_n hn hr, nI_clamp (by omega)]
  rfl
theorem ps1_f {n : Nat} {f : Nat → AS} {d : AS} {x : Int32} (h : inR n x = false) : ps1 n f d x = d := by unfold ps1; rw [h]; rfl
-- ===== tick, place =====
def okT (S : AS) (x : Int32) : Bool := !(decide (x < nI 1)) && (!(decide (nI 100 < x)) && decide (sT S + x.toNatClampNeg ≤ 100000))
def aTick (S : AS) (x : Int32) : Int32 := if okT S x then nI (sT S + x.toNatClampNeg) else -1
def pTick (S : AS) (x : Int32) : AS := if okT S x then uT S (sT S + x.toNatClampNeg) else S
theorem okT_1 {S : AS} {x : Int32} (h : x < nI 1) : okT S x = false := by unfold okT; rw [decide_eq_true h]; rfl
theorem okT_2 {S : AS} {x : Int32} (h : nI 100 < x) : okT S x = false := by unfold okT; rw [decide_eq_true h]; simp
theorem okT_x {x : Int32} (h1 : ¬ x < nI 1) (h2 : ¬ nI 100 < x) : ∃ k : Nat, 1 ≤ k ∧ k ≤ 100 ∧ x = nI k := by
  have h0 : ¬ x < 0 := fun h => h1 (Int32.lt_trans h (by decide))
  obtain ⟨j, hj, rfl⟩ := nI_of h0
  refine ⟨j, ?_, ?_, rfl⟩
  · exact Nat.le_of_not_lt (fun q => h1 (nI_lt q (by decide)))
  · exact Nat.le_of_not_lt (fun q => h2 (nI_lt q hj))
theorem okT_3 {S : AS} {k : Nat} (h1 : 1 ≤ k) (h2 : k ≤ 100) (h3 : sT S + k ≤ 100000) : okT S (nI k) = true := by
  unfold okT
  rw [decide_eq_false (nI_nlt h1 (by omega)), decide_eq_false (nI_nlt h2 (by decide)), nI_clamp (by omega), decide_eq_true h3]
  rfl
theorem okT_4 {S : AS} {k : Nat} (h2 : k ≤ 100) (h3 : 100000 < sT S + k) : okT S (nI k) = false := by
  unfold okT
  rw [nI_clamp (by omega), decide_eq_false (show ¬ sT S + k ≤ 100000 by omega)]
  simp
theorem aTick_t {S : AS} {k : Nat} (h2 : k ≤ 100) (h : okT S (nI k) = true) : aTick S (nI k) = nI (sT S + k) := by unfold aTick; rw [h, nI_clamp (by omega)]; rfl
theorem pTick_t {S : AS} {k : Nat} (h2 : k ≤ 100) (h : okT S (nI k) = true) : pTick S (nI k) = uT S (sT S + k) := by unfold pTick; rw [h, nI_clamp (by omega)]; rfl
theorem aTick_f {S : AS} {x : Int32} (h : okT S x = false) : aTick S x = -1 := by unfold aTick; rw [h]; rfl
theorem pTick_f {S : AS} {x : Int32} (h : okT S x = false) : pTick S x = S := by unfold pTick; rw [h]; rfl
theorem pl_t {d : Int32} (h1 : ¬ d < 0) (h2 : d ≤ nI 9999) : ∃ k : Nat, k < 10000 ∧ d = nI k := by
  obtain ⟨j, hj, rfl⟩ := nI_of h1
  exact ⟨j, Nat.lt_succ_of_le ((nI_leI hj (by decide)).mp h2), rfl⟩
theorem pl_f {d : Int32} (h2 : ¬ d ≤ nI 9999) : inR 10000 d = false := by
  by_cases h : d < 0
  · exact inR_f1 h
  · obtain ⟨j, hj, rfl⟩ := nI_of h
    exact inR_f2 ((nI_leI (by decide) hj).mpr (Nat.lt_of_not_le (fun q => h2 ((nI_leI hj (by decide)).mpr q))))
/-- place's answer and state: the pair's, if the distance is one -/
def aPl (x y d : Int32) : Int32 := if inR 10000 d then pr2 (fun _ _ => nI 1) (nI 0) x y else nI 0
def pPl (S : AS) (x y d : Int32) (b : Bool) : AS := if inR 10000 d then ps2 (fun r z => uI (uS S (upB (sS S) (16 * r + z) b)) (upN (sI S) (16 * r + z) d.toNatClampNeg)) S x y else S
theorem aPl_f {x y d : Int32} (h : inR 10000 d = false) : aPl x y d = nI 0 := by unfold aPl; rw [h]; rfl
theorem pPl_f {S : AS} {x y d : Int32} {b : Bool} (h : inR 10000 d = false) : pPl S x y d b = S := by unfold pPl; rw [h]; rfl
theorem aPl_g {x y d : Int32} (h : (inR 10 x && inR 16 y) = false) : aPl x y d = nI 0 := by
  unfold aPl
  split
  · exact pr2_f h
  · rfl
theorem pPl_g {S : AS} {x y d : Int32} {b : Bool} (h : (inR 10 x && inR 16 y) = false) : pPl S x y d b = S := by
  unfold pPl
  split
  · exact ps2_f h
  · rfl
theorem aPl_t {r z k : Nat} (hr : r < 10) (hz : z < 16) (hk : k < 10000) : aPl (nI r) (nI z) (nI k) = nI 1 := by
  unfold aPl
  rw [inR_n (by decide) hk, pr2_t hr hz]
  rfl
theorem pPl_t {S : AS} {r z k : Nat} {b : Bool} (hr : r < 10) (hz : z < 16) (hk : k < 10000) : pPl S (nI r) (nI z) (nI k) b = uI (uS S (upB (sS S) (16 * r + z) b)) (upN (sI S) (16 * r + z) k) := by
  unfold pPl
  rw [inR_n (by decide) hk, ps2_t hr hz, nI_clamp (by omega)]
  rfl
abbrev aFw (x y : Int32) : Int32 := pr2 (fun _ _ => nI 1) (nI 0) x y
abbrev pFw (S : AS) (x y : Int32) (b : Bool) : AS := ps2 (fun r z => uF S (upF (sF S) r z b)) S x y
abbrev aTh (S : AS) (x : Int32) : Int32 := pr1 10 (fun r => bI (!(sG S r))) (nI 0) x
abbrev pTh (S : AS) (x : Int32) (b : Bool) : AS := ps1 10 (fun r => uG S (upB (sG S) r (!b))) S x
abbrev aDf (S : AS) (x : Int32) : Int32 := pr1 10 (fun r => bI (sD S r)) (nI 0) x
abbrev pDf (S : AS) (x : Int32) (b : Bool) : AS := ps1 10 (fun r => uD S (upB (sD S) r b)) S x
-- ===== what stays =====
theorem pO_keep (S : AS) (k h c : Nat) : pO (pKeep S k h) c = pO S c := by unfold pKeep; split <;> rfl
theorem sN_keep (S : AS) (k h : Nat) : sN (pKeep S k h) = sN S := by unfold pKeep; split <;> rfl
theorem sR_keep (S : AS) (k h : Nat) : sR (pKeep S k h) = sR S := by unfold pKeep; split <;> rfl
theorem iv_keep {S : AS} (hi : iv S) {k h : Nat} (h1 : h % 100 < 10) (h2 : h ≤ 1999909) : iv (pKeep S k h) := by
  unfold pKeep
  split
  · obtain ⟨i1, i2, i3, i4, i5, i6⟩ := hi
    refine ⟨i1, i2, fun c => ?_, fun c => ?_, i5, i6⟩
    · show upN (sC S) k h c % 100 < 10 ∧ upN (sC S) k h c ≤ 1999909
      unfold upN
      split
      · exact ⟨h1, h2⟩
      · exact i3 c
    · show upN (sU S) k (sT S + 60) c ≤ 100060
      unfold upN
      split
      · omega
      · exact i4 c
  · exact hi
theorem iv_say {S : AS} (hi : iv S) {X : Nat} (h1 : X ≤ 1999909) (h2 : sN S < 1023) : iv (pSay S X) := by
  obtain ⟨i1, i2, i3, i4, i5, i6⟩ := hi
  refine ⟨i1, i2, i3, i4, h2, fun c => ?_⟩
  show upN (sR S) (sN S) X c ≤ 1999909
  unfold upN
  split
  · exact h1
  · exact i6 c
end
section
set_option maxHeartbeats 4000000 in
set_option maxRecDepth 100000 in
theorem c0_tick (l : Launch) (D : va_G) (ad : Nat → Nat) (hd : apt 6 ad) (ck : Nat → ClassId) (S : AS) (a : Nat) (hi : iv S) (x : Int32) : Met l yX0_tick wsX0_tick ({ frames := 0, cells := 0, slots := 0, locals := 0 }) (PW D (wB ad ck S a) (tyB ck) [.ref (ad 0), .int (x)]) (QcM (some (.int (aTick S x))) (fun H => va_P D vwCl (wB ad ck (pTick S x) a) H) (aB ad)) 0 0 (aB ad) := by
  refine Met.ofW (cc := cX0_tick) (maxL := 2) (ret := (some .int)) (by decide) rfl ?_
  intro p e s m args below meth c s₁ B hml hv
  obtain ⟨rfl, hP, hK⟩ := hv
  have hx := B.exec
  have hb := B.bytes
  have hr := B.returns
  have hts := atoms_spec (ws := wsX0_tick) B.pre
  have hown : s.vm.findClass RX0 = some m.cls := findClass_of_methodNamed B.named
  have hlocks := B.notSynchronized
  have hin0 : ∀ w ∈ wsX00, w ∈ wsX0_tick := by decide +kernel
  have hl := lv_entry ([.ref (ad 0), .int (x)]) (n := 2) (Nat.le_of_ble_eq_true rfl)
  rw [lg_entry_eq]
  generalize (lg_sl ([.ref (ad 0), .int (x)]) ++ List.replicate (2 - (lg_sl ([.ref (ad 0), .int (x)])).length) Slot.unset).toArray = ls at hl ⊢
  have hl : lv_has ls 2 [(0, .ref (ad 0)), (1, .int (x))] := hl
  have hS : va_S (aB ad) s.heap s.heap [] := va_S.rf
  have hT := hi.1
  refine lv_iload_n hx hb dX0_tick_0 rfl (lv_at hl 1 rfl) ?_
  refine lv_iconst (v := nI 1) hx hb dX0_tick_1 (by decide) ?_
  refine lv_icmp_lt (tgt := 22) hx hb dX0_tick_2 (by decide) (fun h1 => ?_) (fun h1 => ?_)
  · skip
    refine lv_iconst (v := -1) hx hb dX0_tick_22 (by decide) ?_
    exact W.iret (v := (-1)) hx hb hr (fun t ht hW => ⟨ro_i ((aTick_f (okT_1 h1)).symm), by rw [ht, pTick_f (okT_1 h1)]; exact hP, hS.F ht⟩) hS.2.2 dX0_tick_23
  · skip
    refine lv_iload_n hx hb dX0_tick_5 rfl (lv_at hl 1 rfl) ?_
    refine lv_bipush (v := nI 100) hx hb dX0_tick_6 (by decide) ?_
    refine lv_icmp_gt (tgt := 22) hx hb dX0_tick_8 (by decide) (fun h2 => ?_) (fun h2 => ?_)
    · skip
      refine lv_iconst (v := -1) hx hb dX0_tick_22 (by decide) ?_
      exact W.iret (v := (-1)) hx hb hr (fun t ht hW => ⟨ro_i ((aTick_f (okT_2 h2)).symm), by rw [ht, pTick_f (okT_2 h2)]; exact hP, hS.F ht⟩) hS.2.2 dX0_tick_23
    · skip
      obtain ⟨k, hk1, hk2, rfl⟩ := okT_x h1 h2
      refine lv_aload_n hx hb dX0_tick_11 rfl (lv_at hl 0 rfl) ?_
      refine va_get (D := D) (ci := 0) (v := .int (nI (sT S))) (C := RX0) (T := TX0) (N := 10) hx hb hts hin0 hown hK hP 0 rfl rfl 0 (by decide) (hts (.fieldLink RX0 7 "ClaimBench" "time" "I") (by decide +kernel)) (fun _ h9 => h9) rfl dX0_tick_12 ?_
      refine lv_iload_n hx hb dX0_tick_15 rfl (lv_at hl 1 rfl) ?_
      refine xx_add hx hb dX0_tick_16 ?_
      refine lv_ldc (own := RX0) (v := nI 100000) hx hb hown (hts (.constant RX0 49 (100000)) (by decide +kernel)) dX0_tick_17 ?_
      refine xx_le (tgt := 24) hx hb dX0_tick_19 (by decide) (by omega) (by omega) (fun h3 => ?_) (fun h3 => ?_)
      · skip
        refine lv_aload_n hx hb dX0_tick_24 rfl (lv_at hl 0 rfl) ?_
        refine lv_dup hx hb dX0_tick_25 rfl ?_
        refine va_get (D := D) (ci := 0) (v := .int (nI (sT S))) (C := RX0) (T := TX0) (N := 10) hx hb hts hin0 hown hK hP 0 rfl rfl 0 (by decide) (hts (.fieldLink RX0 7 "ClaimBench" "time" "I") (by decide +kernel)) (fun _ h9 => h9) rfl dX0_tick_26 ?_
        refine lv_iload_n hx hb dX0_tick_29 rfl (lv_at hl 1 rfl) ?_
        refine xx_add hx hb dX0_tick_30 ?_
        refine va_put (D := D) (ci := 0) (v := .int (nI ((sT S) + k))) (ty := .int) (C := RX0) (T := TX0) (N := 10) hx hb hts hin0 tyX0 tyX0_ok nmX0 hown hK hP (dB hd ck _ _) hS 0 rfl rfl 0 (by decide) (hts (.fieldLink RX0 7 "ClaimBench" "time" "I") (by decide +kernel)) (fun _ h9 => h9) rfl (by decide +kernel) rfl rfl (Nat.le_of_ble_eq_true rfl) dX0_tick_31 (fun H locs hP _ hS => ?_)
        have hP : va_P D vwCl (wB ad ck (uT S (sT S + k)) a) H := hP
        refine lv_aload_n hx hb dX0_tick_34 rfl (lv_at hl 0 rfl) ?_
        refine va_get (D := D) (ci := 0) (v := .int (nI (sT (uT S (sT S + k))))) (C := RX0) (T := TX0) (N := 10) hx hb hts hin0 hown hK hP 0 rfl rfl 0 (by decide) (hts (.fieldLink RX0 7 "ClaimBench" "time" "I") (by decide +kernel)) (fun _ h9 => h9) rfl dX0_tick_35 ?_
        exact W.iret (v := (nI (sT (uT S (sT S + k))))) hx hb hr (fun t ht hW => ⟨ro_i ((aTick_t hk2 (okT_3 hk1 hk2 h3)).symm), by rw [ht, pTick_t hk2 (okT_3 hk1 hk2 h3)]; exact hP, hS.F ht⟩) hS.2.2 dX0_tick_38
      · skip
        refine lv_iconst (v := -1) hx hb dX0_tick_22 (by decide) ?_
        exact W.iret (v := (-1)) hx hb hr (fun t ht hW => ⟨ro_i ((aTick_f (okT_4 hk2 h3)).symm), by rw [ht, pTick_f (okT_4 hk2 h3)]; exact hP, hS.F ht⟩) hS.2.2 dX0_tick_23
set_option maxHeartbeats 4000000 in
set_option maxRecDepth 100000 in
theorem c1_tick (l : Launch) (D : va_G) (ad : Nat → Nat) (hd : apt 9 ad) (ck : Nat → ClassId) (S : AS) (a : Nat) (hi : iv S) (x : Int32) : Met l yX1_tick wsX1_tick ({ frames := 0, cells := 0, slots := 0, locals := 0 }) (PW D (wM ad ck S a) (tyM ck) [.ref (ad 0), .int (x)]) (QcM (some (.int (aTick S x))) (fun H => va_P D vwCl (wM ad ck (pTick S x) a) H) (aM ad)) 0 0 (aM ad) := by
  refine Met.ofW (cc := cX1_tick) (maxL := 2) (ret := (some .int)) (by decide) rfl ?_
  intro p e s m args below meth c s₁ B hml hv
  obtain ⟨rfl, hP, hK⟩ := hv
  have hx := B.exec
  have hb := B.bytes
  have hr := B.returns
  have hts := atoms_spec (ws := wsX1_tick) B.pre
  have hown : s.vm.findClass RX1 = some m.cls := findClass_of_methodNamed B.named
  have hlocks := B.notSynchronized
  have hin0 : ∀ w ∈ wsX10, w ∈ wsX1_tick := by decide +kernel
  have hl := lv_entry ([.ref (ad 0), .int (x)]) (n := 2) (Nat.le_of_ble_eq_true rfl)
  rw [lg_entry_eq]
  generalize (lg_sl ([.ref (ad 0), .int (x)]) ++ List.replicate (2 - (lg_sl ([.ref (ad 0), .int (x)])).length) Slot.unset).toArray = ls at hl ⊢
  have hl : lv_has ls 2 [(0, .ref (ad 0)), (1, .int (x))] := hl
  have hS : va_S (aM ad) s.heap s.heap [] := va_S.rf
  have hT := hi.1
  refine lv_iload_n hx hb dX1_tick_0 rfl (lv_at hl 1 rfl) ?_
  refine lv_iconst (v := nI 1) hx hb dX1_tick_1 (by decide) ?_
  refine lv_icmp_lt (tgt := 22) hx hb dX1_tick_2 (by decide) (fun h1 => ?_) (fun h1 => ?_)
  · skip
    refine lv_iconst (v := -1) hx hb dX1_tick_22 (by decide) ?_
    exact W.iret (v := (-1)) hx hb hr (fun t ht hW => ⟨ro_i ((aTick_f (okT_1 h1)).symm), by rw [ht, pTick_f (okT_1 h1)]; exact hP, hS.F ht⟩) hS.2.2 dX1_tick_23
  · skip
    refine lv_iload_n hx hb dX1_tick_5 rfl (lv_at hl 1 rfl) ?_
    refine lv_bipush (v := nI 100) hx hb dX1_tick_6 (by decide) ?_
    refine lv_icmp_gt (tgt := 22) hx hb dX1_tick_8 (by decide) (fun h2 => ?_) (fun h2 => ?_)
    · skip
      refine lv_iconst (v := -1) hx hb dX1_tick_22 (by decide) ?_
      exact W.iret (v := (-1)) hx hb hr (fun t ht hW => ⟨ro_i ((aTick_f (okT_2 h2)).symm), by rw [ht, pTick_f (okT_2 h2)]; exact hP, hS.F ht⟩) hS.2.2 dX1_tick_23
    · skip
      obtain ⟨k, hk1, hk2, rfl⟩ := okT_x h1 h2
      refine lv_aload_n hx hb dX1_tick_11 rfl (lv_at hl 0 rfl) ?_
      refine va_get (D := D) (ci := 1) (v := .int (nI (sT S))) (C := RX1) (T := TX1) (N := 11) hx hb hts hin0 hown hK hP 0 rfl rfl 0 (by decide) (hts (.fieldLink RX1 39 "ClaimBenchModel" "time" "I") (by decide +kernel)) (fun _ h9 => h9) rfl dX1_tick_12 ?_
      refine lv_iload_n hx hb dX1_tick_15 rfl (lv_at hl 1 rfl) ?_
      refine xx_add hx hb dX1_tick_16 ?_
      refine lv_ldc (own := RX1) (v := nI 100000) hx hb hown (hts (.constant RX1 43 (100000)) (by decide +kernel)) dX1_tick_17 ?_
      refine xx_le (tgt := 24) hx hb dX1_tick_19 (by decide) (by omega) (by omega) (fun h3 => ?_) (fun h3 => ?_)
      · skip
        refine lv_aload_n hx hb dX1_tick_24 rfl (lv_at hl 0 rfl) ?_
        refine lv_dup hx hb dX1_tick_25 rfl ?_
        refine va_get (D := D) (ci := 1) (v := .int (nI (sT S))) (C := RX1) (T := TX1) (N := 11) hx hb hts hin0 hown hK hP 0 rfl rfl 0 (by decide) (hts (.fieldLink RX1 39 "ClaimBenchModel" "time" "I") (by decide +kernel)) (fun _ h9 => h9) rfl dX1_tick_26 ?_
        refine lv_iload_n hx hb dX1_tick_29 rfl (lv_at hl 1 rfl) ?_
        refine xx_add hx hb dX1_tick_30 ?_
        refine va_put (D := D) (ci := 1) (v := .int (nI ((sT S) + k))) (ty := .int) (C := RX1) (T := TX1) (N := 11) hx hb hts hin0 tyX1 tyX1_ok nmX1 hown hK hP (dM hd ck _ _) hS 0 rfl rfl 0 (by decide) (hts (.fieldLink RX1 39 "ClaimBenchModel" "time" "I") (by decide +kernel)) (fun _ h9 => h9) rfl (by decide +kernel) rfl rfl (Nat.le_of_ble_eq_true rfl) dX1_tick_31 (fun H locs hP _ hS => ?_)
        have hP : va_P D vwCl (wM ad ck (uT S (sT S + k)) a) H := hP
        refine lv_aload_n hx hb dX1_tick_34 rfl (lv_at hl 0 rfl) ?_
        refine va_get (D := D) (ci := 1) (v := .int (nI (sT (uT S (sT S + k))))) (C := RX1) (T := TX1) (N := 11) hx hb hts hin0 hown hK hP 0 rfl rfl 0 (by decide) (hts (.fieldLink RX1 39 "ClaimBenchModel" "time" "I") (by decide +kernel)) (fun _ h9 => h9) rfl dX1_tick_35 ?_
        exact W.iret (v := (nI (sT (uT S (sT S + k))))) hx hb hr (fun t ht hW => ⟨ro_i ((aTick_t hk2 (okT_3 hk1 hk2 h3)).symm), by rw [ht, pTick_t hk2 (okT_3 hk1 hk2 h3)]; exact hP, hS.F ht⟩) hS.2.2 dX1_tick_38
      · skip
        refine lv_iconst (v := -1) hx hb dX1_tick_22 (by decide) ?_
        exact W.iret (v := (-1)) hx hb hr (fun t ht hW => ⟨ro_i ((aTick_f (okT_4 hk2 h3)).symm), by rw [ht, pTick_f (okT_4 hk2 h3)]; exact hP, hS.F ht⟩) hS.2.2 dX1_tick_23
set_option maxHeartbeats 4000000 in
set_option maxRecDepth 100000 in
theorem c0_forward (l : Launch) (D : va_G) (ad : Nat → Nat) (hd : apt 6 ad) (ck : Nat → ClassId) (S : AS) (a : Nat) (hi : iv S) (x y : Int32) (b : Bool) : Met l yX0_forward wsX0_forward ({ frames := 1, cells := 0, slots := 0, locals := 22 }) (PW D (wB ad ck S a) (tyB ck) [.ref (ad 0), .int (x), .int (y), .int (bI (b))]) (QcM (some (.int (aFw x y))) (fun H => va_P D vwCl (wB ad ck (pFw S x y b) a) H) (aB ad)) 0 0 (aB ad) := by
  refine Met.ofW (cc := cX0_forward) (maxL := 4) (ret := (some .boolean)) (by decide) rfl ?_
  intro p e s m args below meth c s₁ B hml hv
  obtain ⟨rfl, hP, hK⟩ := hv
  have hx := B.exec
  have hb := B.bytes
  have hr := B.returns
  have hts := atoms_spec (ws := wsX0_forward) B.pre
  have hown : s.vm.findClass RX0 = some m.cls := findClass_of_methodNamed B.named
  have hlocks := B.notSynchronized
  have hin0 : ∀ w ∈ wsX00, w ∈ wsX0_forward := by decide +kernel
  have hl := lv_entry ([.ref (ad 0), .int (x), .int (y), .int (bI (b))]) (n := 4) (Nat.le_of_ble_eq_true rfl)
  rw [lg_entry_eq]
  generalize (lg_sl ([.ref (ad 0), .int (x), .int (y), .int (bI (b))]) ++ List.replicate (4 - (lg_sl ([.ref (ad 0), .int (x), .int (y), .int (bI (b))])).length) Slot.unset).toArray = ls at hl ⊢
  have hl : lv_has ls 4 [(0, .ref (ad 0)), (1, .int (x)), (2, .int (y)), (3, .int (bI (b)))] := hl
  have hS : va_S (aB ad) s.heap s.heap [] := va_S.rf
  refine lv_iload_n hx hb dX0_forward_0 rfl (lv_at hl 1 rfl) ?_
  refine W.callR (W.runS (As := [.int (x)]) (rest := []) ⟨hx, hb, hml, hown, hts⟩ (c0_isRouter l ((x))) (va_cwS 1 hts gX0_forward_X0_isRouter rfl rfl rfl (by decide +kernel) ⟨Nat.le_of_ble_eq_true rfl, Nat.le_of_ble_eq_true rfl⟩) preEq rfl rfl hl.1 rfl (lv_room (Nat.le_of_ble_eq_true rfl)) dX0_forward_1 ⟨Nat.zero_le _, Nat.zero_le _⟩) ?_
  refine W.eq (g2 := F0 m 4 ls [.int (bI (inR 10 ((x))))]) rfl ?_
  refine xx_if0 (tgt := 14) hx hb dX0_forward_4 (by decide) (fun h1 => ?_) (fun h1 => ?_)
  · skip
    refine lv_iconst (v := nI 0) hx hb dX0_forward_14 (by decide) ?_
    exact W.zret (v := (nI (0))) (ty := .boolean) hx hb hr (rfl) (fun t ht hW => ⟨ro_i ((pr2_f1 h1).symm), by rw [ht, show pFw S x y b = S from ps2_f1 h1]; exact hP, hS.F ht⟩) hS.2.2 dX0_forward_15
  · skip
    obtain ⟨r, hr10, rfl⟩ := inR_t (by decide) h1
    refine lv_iload_n hx hb dX0_forward_7 rfl (lv_at hl 2 rfl) ?_
    refine W.callR (W.runS (As := [.int (y)]) (rest := []) ⟨hx, hb, hml, hown, hts⟩ (c0_isSource l ((y))) (va_cwS 1 hts gX0_forward_X0_isSource rfl rfl rfl (by decide +kernel) ⟨Nat.le_of_ble_eq_true rfl, Nat.le_of_ble_eq_true rfl⟩) preEq rfl rfl hl.1 rfl (lv_room (Nat.le_of_ble_eq_true rfl)) dX0_forward_8 ⟨Nat.zero_le _, Nat.zero_le _⟩) ?_
    refine W.eq (g2 := F0 m 11 ls [.int (bI (inR 16 ((y))))]) rfl ?_
    refine xx_if1 (tgt := 16) hx hb dX0_forward_11 (by decide) (fun h2 => ?_) (fun h2 => ?_)
    · skip
      obtain ⟨z, hz16, rfl⟩ := inR_t (by decide) h2
      refine lv_aload_n hx hb dX0_forward_16 rfl (lv_at hl 0 rfl) ?_
      refine va_get (D := D) (ci := 0) (v := .ref (ad 1)) (C := RX0) (T := TX0) (N := 10) hx hb hts hin0 hown hK hP 0 rfl rfl 4 (by decide) (hts (.fieldLink RX0 22 "ClaimBench" "forwardBits" "[I") (by decide +kernel)) (fun _ h9 => h9) rfl dX0_forward_17 ?_
      refine lv_iload_n hx hb dX0_forward_20 rfl (lv_at hl 2 rfl) ?_
      refine lv_aload_n hx hb dX0_forward_21 rfl (lv_at hl 0 rfl) ?_
      refine va_get (D := D) (ci := 0) (v := .ref (ad 1)) (C := RX0) (T := TX0) (N := 10) hx hb hts hin0 hown hK hP 0 rfl rfl 4 (by decide) (hts (.fieldLink RX0 22 "ClaimBench" "forwardBits" "[I") (by decide +kernel)) (fun _ h9 => h9) rfl dX0_forward_22 ?_
      refine lv_iload_n hx hb dX0_forward_25 rfl (lv_at hl 2 rfl) ?_
      refine xx_ald hx hb hK hP 1 0 (fun c_ => nI (bm (fun i_ => sF S i_ c_))) rfl rfl (j := z) (by omega) (by decide) dX0_forward_26 ?_
      refine W.eq (g2 := F0 m 27 ls [.int (nI (bm (fun i_ => sF S i_ z))), .int (nI (z)), .ref (ad 1)]) rfl ?_
      refine lv_iload_n hx hb dX0_forward_27 rfl (lv_at hl 1 rfl) ?_
      refine lv_iload_n hx hb dX0_forward_28 rfl (lv_at hl 3 rfl) ?_
      refine W.callR (W.runS (As := [.int (nI (bm (fun i_ => sF S i_ z))), .int (nI (r)), .int (bI (b))]) (rest := [.int (nI (z)), .ref (ad 1)]) ⟨hx, hb, hml, hown, hts⟩ (c0_withBit l (fun i_ => sF S i_ z) r b (by omega)) (va_cwS 3 hts gX0_forward_X0_withBit rfl rfl rfl (by decide +kernel) ⟨Nat.le_of_ble_eq_true rfl, Nat.le_of_ble_eq_true rfl⟩) preEq rfl rfl hl.1 rfl (lv_room (Nat.le_of_ble_eq_true rfl)) dX0_forward_29 ⟨Nat.zero_le _, Nat.zero_le _⟩) ?_
      refine W.eq (g2 := F0 m 32 ls [.int (nI (bm (upB (fun i_ => sF S i_ z) r b))), .int (nI (z)), .ref (ad 1)]) rfl ?_
      refine xx_ast hx hb hK hP (dB hd ck _ _) hS 1 0 rfl rfl (j := z) (by omega) (by decide) (fun c_ => nI (bm (fun i_ => sF (uF S (upF (sF S) r z b)) i_ c_))) (st_fw S r z b) dX0_forward_32 (fun H locs hP hS => ?_)
      have hP : va_P D vwCl (wB ad ck (uF S (upF (sF S) r z b)) a) H := hP
      refine lv_iconst (v := nI 1) hx hb dX0_forward_33 (by decide) ?_
      exact W.zret (v := (nI (1))) (ty := .boolean) hx hb hr (rfl) (fun t ht hW => ⟨ro_i ((pr2_t (f := fun _ _ => nI 1) hr10 hz16).symm), by rw [ht, show pFw S (nI r) (nI z) b = uF S (upF (sF S) r z b) from ps2_t hr10 hz16]; exact hP, hS.F ht⟩) hS.2.2 dX0_forward_34
    · skip
      refine lv_iconst (v := nI 0) hx hb dX0_forward_14 (by decide) ?_
      exact W.zret (v := (nI (0))) (ty := .boolean) hx hb hr (rfl) (fun t ht hW => ⟨ro_i ((pr2_f2 h2).symm), by rw [ht, show pFw S (nI r) y b = S from ps2_f2 h2]; exact hP, hS.F ht⟩) hS.2.2 dX0_forward_15
set_option maxHeartbeats 4000000 in
set_option maxRecDepth 100000 in
theorem c1_forward (l : Launch) (D : va_G) (ad : Nat → Nat) (hd : apt 9 ad) (ck : Nat → ClassId) (S : AS) (a : Nat) (hi : iv S) (x y : Int32) (b : Bool) : Met l yX1_forward wsX1_forward ({ frames := 2, cells := 0, slots := 0, locals := 41 }) (PW D (wM ad ck S a) (tyM ck) [.ref (ad 0), .int (x), .int (y), .int (bI (b))]) (QcM (some (.int (aFw x y))) (fun H => va_P D vwCl (wM ad ck (pFw S x y b) a) H) (aM ad)) 0 0 (aM ad) := by
  refine Met.ofW (cc := cX1_forward) (maxL := 4) (ret := (some .boolean)) (by decide) rfl ?_
  intro p e s m args below meth c s₁ B hml hv
  obtain ⟨rfl, hP, hK⟩ := hv
  have hx := B.exec
  have hb := B.bytes
  have hr := B.returns
  have hts := atoms_spec (ws := wsX1_forward) B.pre
  have hown : s.vm.findClass RX1 = some m.cls := findClass_of_methodNamed B.named
  have hlocks := B.notSynchronized
  have hin0 : ∀ w ∈ wsX10, w ∈ wsX1_forward := by decide +kernel
  have hl := lv_entry ([.ref (ad 0), .int (x), .int (y), .int (bI (b))]) (n := 4) (Nat.le_of_ble_eq_true rfl)
  rw [lg_entry_eq]
  generalize (lg_sl ([.ref (ad 0), .int (x), .int (y), .int (bI (b))]) ++ List.replicate (4 - (lg_sl ([.ref (ad 0), .int (x), .int (y), .int (bI (b))])).length) Slot.unset).toArray = ls at hl ⊢
  have hl : lv_has ls 4 [(0, .ref (ad 0)), (1, .int (x)), (2, .int (y)), (3, .int (bI (b)))] := hl
  have hS : va_S (aM ad) s.heap s.heap [] := va_S.rf
  refine lv_iload_n hx hb dX1_forward_0 rfl (lv_at hl 1 rfl) ?_
  refine lv_iload_n hx hb dX1_forward_1 rfl (lv_at hl 2 rfl) ?_
  refine W.callR (W.runS (As := [.int (x), .int (y)]) (rest := []) ⟨hx, hb, hml, hown, hts⟩ (c1_isPair l ((x)) ((y))) (va_cwS 2 hts gX1_forward_X1_isPair rfl rfl rfl (by decide +kernel) ⟨Nat.le_of_ble_eq_true rfl, Nat.le_of_ble_eq_true rfl⟩) preEq rfl rfl hl.1 rfl (lv_room (Nat.le_of_ble_eq_true rfl)) dX1_forward_2 ⟨Nat.zero_le _, Nat.zero_le _⟩) ?_
  refine W.eq (g2 := F0 m 5 ls [.int (bI (inR 10 ((x)) && inR 16 ((y))))]) rfl ?_
  refine xx_if1 (tgt := 10) hx hb dX1_forward_5 (by decide) (fun h1 => ?_) (fun h1 => ?_)
  · skip
    obtain ⟨hp1, hp2⟩ := (Bool.and_eq_true _ _).mp h1
    obtain ⟨r, hr10, rfl⟩ := inR_t (by decide) hp1
    obtain ⟨z, hz16, rfl⟩ := inR_t (by decide) hp2
    refine lv_aload_n hx hb dX1_forward_10 rfl (lv_at hl 0 rfl) ?_
    refine va_get (D := D) (ci := 1) (v := .ref (ad 3)) (C := RX1) (T := TX1) (N := 11) hx hb hts hin0 hown hK hP 0 rfl rfl 4 (by decide) (hts (.fieldLink RX1 16 "ClaimBenchModel" "forwards" "[Z") (by decide +kernel)) (fun _ h9 => h9) rfl dX1_forward_11 ?_
    refine lv_bipush (v := nI 16) hx hb dX1_forward_14 (by decide) ?_
    refine lv_iload_n hx hb dX1_forward_16 rfl (lv_at hl 1 rfl) ?_
    refine xx_mul hx hb dX1_forward_17 ?_
    refine lv_iload_n hx hb dX1_forward_18 rfl (lv_at hl 2 rfl) ?_
    refine xx_add hx hb dX1_forward_19 ?_
    refine lv_iload_n hx hb dX1_forward_20 rfl (lv_at hl 3 rfl) ?_
    refine xx_zst hx hb hK hP (dM hd ck _ _) hS 3 2 rfl rfl (j := (16 * r) + z) (by omega) (by decide) (fun c_ => bI (sF (uF S (upF (sF S) r z b)) (c_ / 16) (c_ % 16))) (st_fm S r z b hz16) dX1_forward_21 (fun H locs hP hS => ?_)
    have hP : va_P D vwCl (wM ad ck (uF S (upF (sF S) r z b)) a) H := hP
    refine lv_iconst (v := nI 1) hx hb dX1_forward_22 (by decide) ?_
    exact W.zret (v := (nI (1))) (ty := .boolean) hx hb hr (rfl) (fun t ht hW => ⟨ro_i ((pr2_t (f := fun _ _ => nI 1) hr10 hz16).symm), by rw [ht, show pFw S (nI r) (nI z) b = uF S (upF (sF S) r z b) from ps2_t hr10 hz16]; exact hP, hS.F ht⟩) hS.2.2 dX1_forward_23
  · skip
    refine lv_iconst (v := nI 0) hx hb dX1_forward_8 (by decide) ?_
    exact W.zret (v := (nI (0))) (ty := .boolean) hx hb hr (rfl) (fun t ht hW => ⟨ro_i ((pr2_f h1).symm), by rw [ht, show pFw S x y b = S from ps2_f h1]; exact hP, hS.F ht⟩) hS.2.2 dX1_forward_9
set_option maxHeartbeats 4000000 in
set_option maxRecDepth 100000 in
theorem c0_place (l : Launch) (D : va_G) (ad : Nat → Nat) (hd : apt 6 ad) (ck : Nat → ClassId) (S : AS) (a : Nat) (hi : iv S) (x y : Int32) (b : Bool) (d : Int32) : Met l yX0_place wsX0_place ({ frames := 1, cells := 0, slots := 0, locals := 22 }) (PW D (wB ad ck S a) (tyB ck) [.ref (ad 0), .int (x), .int (y), .int (bI (b)), .int (d)]) (QcM (some (.int (aPl x y d))) (fun H => va_P D vwCl (wB ad ck (pPl S x y d b) a) H) (aB ad)) 0 0 (aB ad) := by
  refine Met.ofW (cc := cX0_place) (maxL := 5) (ret := (some .boolean)) (by decide) rfl ?_
  intro p e s m args below meth c s₁ B hml hv
  obtain ⟨rfl, hP, hK⟩ := hv
  have hx := B.exec
  have hb := B.bytes
  have hr := B.returns
  have hts := atoms_spec (ws := wsX0_place) B.pre
  have hown : s.vm.findClass RX0 = some m.cls := findClass_of_methodNamed B.named
  have hlocks := B.notSynchronized
  have hin0 : ∀ w ∈ wsX00, w ∈ wsX0_place := by decide +kernel
  have hl := lv_entry ([.ref (ad 0), .int (x), .int (y), .int (bI (b)), .int (d)]) (n := 5) (Nat.le_of_ble_eq_true rfl)
  rw [lg_entry_eq]
  generalize (lg_sl ([.ref (ad 0), .int (x), .int (y), .int (bI (b)), .int (d)]) ++ List.replicate (5 - (lg_sl ([.ref (ad 0), .int (x), .int (y), .int (bI (b)), .int (d)])).length) Slot.unset).toArray = ls at hl ⊢
  have hl : lv_has ls 5 [(0, .ref (ad 0)), (1, .int (x)), (2, .int (y)), (3, .int (bI (b))), (4, .int (d))] := hl
  have hS : va_S (aB ad) s.heap s.heap [] := va_S.rf
  refine lv_iload_n hx hb dX0_place_0 rfl (lv_at hl 1 rfl) ?_
  refine W.callR (W.runS (As := [.int (x)]) (rest := []) ⟨hx, hb, hml, hown, hts⟩ (c0_isRouter l ((x))) (va_cwS 1 hts gX0_place_X0_isRouter rfl rfl rfl (by decide +kernel) ⟨Nat.le_of_ble_eq_true rfl, Nat.le_of_ble_eq_true rfl⟩) preEq rfl rfl hl.1 rfl (lv_room (Nat.le_of_ble_eq_true rfl)) dX0_place_1 ⟨Nat.zero_le _, Nat.zero_le _⟩) ?_
  refine W.eq (g2 := F0 m 4 ls [.int (bI (inR 10 ((x))))]) rfl ?_
  refine xx_if0 (tgt := 27) hx hb dX0_place_4 (by decide) (fun h1 => ?_) (fun h1 => ?_)
  · skip
    refine lv_iconst (v := nI 0) hx hb dX0_place_27 (by decide) ?_
    exact W.zret (v := (nI (0))) (ty := .boolean) hx hb hr (rfl) (fun t ht hW => ⟨ro_i ((aPl_g (by rw [h1]; rfl)).symm), by rw [ht, pPl_g (by rw [h1]; rfl)]; exact hP, hS.F ht⟩) hS.2.2 dX0_place_28
  · skip
    obtain ⟨r, hr10, rfl⟩ := inR_t (by decide) h1
    refine lv_iload_n hx hb dX0_place_7 rfl (lv_at hl 2 rfl) ?_
    refine W.callR (W.runS (As := [.int (y)]) (rest := []) ⟨hx, hb, hml, hown, hts⟩ (c0_isSource l ((y))) (va_cwS 1 hts gX0_place_X0_isSource rfl rfl rfl (by decide +kernel) ⟨Nat.le_of_ble_eq_true rfl, Nat.le_of_ble_eq_true rfl⟩) preEq rfl rfl hl.1 rfl (lv_room (Nat.le_of_ble_eq_true rfl)) dX0_place_8 ⟨Nat.zero_le _, Nat.zero_le _⟩) ?_
    refine W.eq (g2 := F0 m 11 ls [.int (bI (inR 16 ((y))))]) rfl ?_
    refine xx_if0 (tgt := 27) hx hb dX0_place_11 (by decide) (fun h2 => ?_) (fun h2 => ?_)
    · skip
      refine lv_iconst (v := nI 0) hx hb dX0_place_27 (by decide) ?_
      exact W.zret (v := (nI (0))) (ty := .boolean) hx hb hr (rfl) (fun t ht hW => ⟨ro_i ((aPl_g (by rw [h2, Bool.and_false])).symm), by rw [ht, pPl_g (by rw [h2, Bool.and_false])]; exact hP, hS.F ht⟩) hS.2.2 dX0_place_28
    · skip
      obtain ⟨z, hz16, rfl⟩ := inR_t (by decide) h2
      refine lv_iload hx hb dX0_place_14 (lv_at hl 4 rfl) ?_
      refine lv_if_lt (tgt := 27) hx hb dX0_place_16 (by decide) (fun h3 => ?_) (fun h3 => ?_)
      · skip
        refine lv_iconst (v := nI 0) hx hb dX0_place_27 (by decide) ?_
        exact W.zret (v := (nI (0))) (ty := .boolean) hx hb hr (rfl) (fun t ht hW => ⟨ro_i ((aPl_f (inR_f1 h3)).symm), by rw [ht, pPl_f (inR_f1 h3)]; exact hP, hS.F ht⟩) hS.2.2 dX0_place_28
      · skip
        refine lv_iload hx hb dX0_place_19 (lv_at hl 4 rfl) ?_
        refine lv_sipush (v := nI 9999) hx hb dX0_place_21 (by decide) ?_
        refine lv_icmp_le (tgt := 29) hx hb dX0_place_24 (by decide) (fun h4 => ?_) (fun h4 => ?_)
        · skip
          obtain ⟨k, hk, rfl⟩ := pl_t h3 h4
          refine lv_aload_n hx hb dX0_place_29 rfl (lv_at hl 0 rfl) ?_
          refine va_get (D := D) (ci := 0) (v := .ref (ad 2)) (C := RX0) (T := TX0) (N := 10) hx hb hts hin0 hown hK hP 0 rfl rfl 5 (by decide) (hts (.fieldLink RX0 26 "ClaimBench" "ownClaims" "[I") (by decide +kernel)) (fun _ h9 => h9) rfl dX0_place_30 ?_
          refine lv_iload_n hx hb dX0_place_33 rfl (lv_at hl 1 rfl) ?_
          refine lv_iload_n hx hb dX0_place_34 rfl (lv_at hl 2 rfl) ?_
          refine W.callR (W.runS (As := [.int (nI (r)), .int (nI (z))]) (rest := [.ref (ad 2)]) ⟨hx, hb, hml, hown, hts⟩ (c0_cellOf l r z) (va_cwS 2 hts gX0_place_X0_cellOf rfl rfl rfl (by decide +kernel) ⟨Nat.le_of_ble_eq_true rfl, Nat.le_of_ble_eq_true rfl⟩) preEq rfl rfl hl.1 rfl (lv_room (Nat.le_of_ble_eq_true rfl)) dX0_place_35 ⟨Nat.zero_le _, Nat.zero_le _⟩) ?_
          refine W.eq (g2 := F0 m 38 ls [.int (nI (16 * r + z)), .ref (ad 2)]) rfl ?_
          refine lv_iload_n hx hb dX0_place_38 rfl (lv_at hl 1 rfl) ?_
          refine lv_iload_n hx hb dX0_place_39 rfl (lv_at hl 3 rfl) ?_
          refine lv_iload hx hb dX0_place_40 (lv_at hl 4 rfl) ?_
          refine W.callR (W.runS (As := [.int (nI (r)), .int (bI (b)), .int (nI (k))]) (rest := [.int (nI (16 * r + z)), .ref (ad 2)]) ⟨hx, hb, hml, hown, hts⟩ (c0_claimOf l r b k) (va_cwS 3 hts gX0_place_X0_claimOf rfl rfl rfl (by decide +kernel) ⟨Nat.le_of_ble_eq_true rfl, Nat.le_of_ble_eq_true rfl⟩) preEq rfl rfl hl.1 rfl (lv_room (Nat.le_of_ble_eq_true rfl)) dX0_place_42 ⟨Nat.zero_le _, Nat.zero_le _⟩) ?_
          refine W.eq (g2 := F0 m 45 ls [.int (nI ((if b then 0 else 1000000) + 100 * k + r)), .int (nI (16 * r + z)), .ref (ad 2)]) rfl ?_
          refine xx_ast hx hb hK hP (dB hd ck _ _) hS 2 1 rfl rfl (j := 16 * r + z) (by omega) (by decide) (fun c_ => nI (pO (uI (uS S (upB (sS S) (16 * r + z) b)) (upN (sI S) (16 * r + z) k)) c_)) (st_pl S r z k b hz16) dX0_place_45 (fun H locs hP hS => ?_)
          have hP : va_P D vwCl (wB ad ck (uI (uS S (upB (sS S) (16 * r + z) b)) (upN (sI S) (16 * r + z) k)) a) H := hP
          refine lv_iconst (v := nI 1) hx hb dX0_place_46 (by decide) ?_
          exact W.zret (v := (nI (1))) (ty := .boolean) hx hb hr (rfl) (fun t ht hW => ⟨ro_i ((aPl_t hr10 hz16 hk).symm), by rw [ht, pPl_t hr10 hz16 hk]; exact hP, hS.F ht⟩) hS.2.2 dX0_place_47
        · skip
          refine lv_iconst (v := nI 0) hx hb dX0_place_27 (by decide) ?_
          exact W.zret (v := (nI (0))) (ty := .boolean) hx hb hr (rfl) (fun t ht hW => ⟨ro_i ((aPl_f (pl_f h4)).symm), by rw [ht, pPl_f (pl_f h4)]; exact hP, hS.F ht⟩) hS.2.2 dX0_place_28
set_option maxHeartbeats 4000000 in
set_option maxRecDepth 100000 in
theorem c1_place (l : Launch) (D : va_G) (ad : Nat → Nat) (hd : apt 9 ad) (ck : Nat → ClassId) (S : AS) (a : Nat) (hi : iv S) (x y : Int32) (b : Bool) (d : Int32) : Met l yX1_place wsX1_place ({ frames := 2, cells := 0, slots := 0, locals := 41 }) (PW D (wM ad ck S a) (tyM ck) [.ref (ad 0), .int (x), .int (y), .int (bI (b)), .int (d)]) (QcM (some (.int (aPl x y d))) (fun H => va_P D vwCl (wM ad ck (pPl S x y d b) a) H) (aM ad)) 0 0 (aM ad) := by
  refine Met.ofW (cc := cX1_place) (maxL := 5) (ret := (some .boolean)) (by decide) rfl ?_
  intro p e s m args below meth c s₁ B hml hv
  obtain ⟨rfl, hP, hK⟩ := hv
  have hx := B.exec
  have hb := B.bytes
  have hr := B.returns
  have hts := atoms_spec (ws := wsX1_place) B.pre
  have hown : s.vm.findClass RX1 = some m.cls := findClass_of_methodNamed B.named
  have hlocks := B.notSynchronized
  have hin0 : ∀ w ∈ wsX10, w ∈ wsX1_place := by decide +kernel
  have hl := lv_entry ([.ref (ad 0), .int (x), .int (y), .int (bI (b)), .int (d)]) (n := 5) (Nat.le_of_ble_eq_true rfl)
  rw [lg_entry_eq]
  generalize (lg_sl ([.ref (ad 0), .int (x), .int (y), .int (bI (b)), .int (d)]) ++ List.replicate (5 - (lg_sl ([.ref (ad 0), .int (x), .int (y), .int (bI (b)), .int (d)])).length) Slot.unset).toArray = ls at hl ⊢
  have hl : lv_has ls 5 [(0, .ref (ad 0)), (1, .int (x)), (2, .int (y)), (3, .int (bI (b))), (4, .int (d))] := hl
  have hS : va_S (aM ad) s.heap s.heap [] := va_S.rf
  refine lv_iload_n hx hb dX1_place_0 rfl (lv_at hl 1 rfl) ?_
  refine lv_iload_n hx hb dX1_place_1 rfl (lv_at hl 2 rfl) ?_
  refine W.callR (W.runS (As := [.int (x), .int (y)]) (rest := []) ⟨hx, hb, hml, hown, hts⟩ (c1_isPair l ((x)) ((y))) (va_cwS 2 hts gX1_place_X1_isPair rfl rfl rfl (by decide +kernel) ⟨Nat.le_of_ble_eq_true rfl, Nat.le_of_ble_eq_true rfl⟩) preEq rfl rfl hl.1 rfl (lv_room (Nat.le_of_ble_eq_true rfl)) dX1_place_2 ⟨Nat.zero_le _, Nat.zero_le _⟩) ?_
  refine W.eq (g2 := F0 m 5 ls [.int (bI (inR 10 ((x)) && inR 16 ((y))))]) rfl ?_
  refine xx_if0 (tgt := 21) hx hb dX1_place_5 (by decide) (fun h1 => ?_) (fun h1 => ?_)
  · skip
    refine lv_iconst (v := nI 0) hx hb dX1_place_21 (by decide) ?_
    exact W.zret (v := (nI (0))) (ty := .boolean) hx hb hr (rfl) (fun t ht hW => ⟨ro_i ((aPl_g h1).symm), by rw [ht, pPl_g h1]; exact hP, hS.F ht⟩) hS.2.2 dX1_place_22
  · skip
    obtain ⟨hp1, hp2⟩ := (Bool.and_eq_true _ _).mp h1
    obtain ⟨r, hr10, rfl⟩ := inR_t (by decide) hp1
    obtain ⟨z, hz16, rfl⟩ := inR_t (by decide) hp2
    refine lv_iload hx hb dX1_place_8 (lv_at hl 4 rfl) ?_
    refine lv_if_lt (tgt := 21) hx hb dX1_place_10 (by decide) (fun h2 => ?_) (fun h2 => ?_)
    · skip
      refine lv_iconst (v := nI 0) hx hb dX1_place_21 (by decide) ?_
      exact W.zret (v := (nI (0))) (ty := .boolean) hx hb hr (rfl) (fun t ht hW => ⟨ro_i ((aPl_f (inR_f1 h2)).symm), by rw [ht, pPl_f (inR_f1 h2)]; exact hP, hS.F ht⟩) hS.2.2 dX1_place_22
    · skip
      refine lv_iload hx hb dX1_place_13 (lv_at hl 4 rfl) ?_
      refine lv_sipush (v := nI 9999) hx hb dX1_place_15 (by decide) ?_
      refine lv_icmp_le (tgt := 23) hx hb dX1_place_18 (by decide) (fun h3 => ?_) (fun h3 => ?_)
      · skip
        obtain ⟨k, hk, rfl⟩ := pl_t h2 h3
        refine lv_aload_n hx hb dX1_place_23 rfl (lv_at hl 0 rfl) ?_
        refine va_get (D := D) (ci := 1) (v := .ref (ad 4)) (C := RX1) (T := TX1) (N := 11) hx hb hts hin0 hown hK hP 0 rfl rfl 5 (by decide) (hts (.fieldLink RX1 19 "ClaimBenchModel" "isStraight" "[Z") (by decide +kernel)) (fun _ h9 => h9) rfl dX1_place_24 ?_
        refine lv_bipush (v := nI 16) hx hb dX1_place_27 (by decide) ?_
        refine lv_iload_n hx hb dX1_place_29 rfl (lv_at hl 1 rfl) ?_
        refine xx_mul hx hb dX1_place_30 ?_
        refine lv_iload_n hx hb dX1_place_31 rfl (lv_at hl 2 rfl) ?_
        refine xx_add hx hb dX1_place_32 ?_
        refine lv_iload_n hx hb dX1_place_33 rfl (lv_at hl 3 rfl) ?_
        refine xx_zst hx hb hK hP (dM hd ck _ _) hS 4 3 rfl rfl (j := (16 * r) + z) (by omega) (by decide) (fun c_ => bI (sS (uS S (upB (sS S) (16 * r + z) b)) c_)) (st_b (sS S) (16 * r + z) b) dX1_place_34 (fun H locs hP hS => ?_)
        have hP : va_P D vwCl (wM ad ck (uS S (upB (sS S) (16 * r + z) b)) a) H := hP
        refine lv_aload_n hx hb dX1_place_35 rfl (lv_at hl 0 rfl) ?_
        refine va_get (D := D) (ci := 1) (v := .ref (ad 5)) (C := RX1) (T := TX1) (N := 11) hx hb hts hin0 hown hK hP 0 rfl rfl 6 (by decide) (hts (.fieldLink RX1 22 "ClaimBenchModel" "distance" "[I") (by decide +kernel)) (fun _ h9 => h9) rfl dX1_place_36 ?_
        refine lv_bipush (v := nI 16) hx hb dX1_place_39 (by decide) ?_
        refine lv_iload_n hx hb dX1_place_41 rfl (lv_at hl 1 rfl) ?_
        refine xx_mul hx hb dX1_place_42 ?_
        refine lv_iload_n hx hb dX1_place_43 rfl (lv_at hl 2 rfl) ?_
        refine xx_add hx hb dX1_place_44 ?_
        refine lv_iload hx hb dX1_place_45 (lv_at hl 4 rfl) ?_
        refine xx_ast hx hb hK hP (dM hd ck _ _) hS 5 4 rfl rfl (j := (16 * r) + z) (by omega) (by decide) (fun c_ => nI (sI (uI (uS S (upB (sS S) (16 * r + z) b)) (upN (sI S) (16 * r + z) k)) c_)) (st_n (sI S) (16 * r + z) k) dX1_place_47 (fun H locs hP hS => ?_)
        have hP : va_P D vwCl (wM ad ck (uI (uS S (upB (sS S) (16 * r + z) b)) (upN (sI S) (16 * r + z) k)) a) H := hP
        refine lv_iconst (v := nI 1) hx hb dX1_place_48 (by decide) ?_
        exact W.zret (v := (nI (1))) (ty := .boolean) hx hb hr (rfl) (fun t ht hW => ⟨ro_i ((aPl_t hr10 hz16 hk).symm), by rw [ht, pPl_t hr10 hz16 hk]; exact hP, hS.F ht⟩) hS.2.2 dX1_place_49
      · skip
        refine lv_iconst (v := nI 0) hx hb dX1_place_21 (by decide) ?_
        exact W.zret (v := (nI (0))) (ty := .boolean) hx hb hr (rfl) (fun t ht hW => ⟨ro_i ((aPl_f (pl_f h3)).symm), by rw [ht, pPl_f (pl_f h3)]; exact hP, hS.F ht⟩) hS.2.2 dX1_place_22
set_option maxHeartbeats 4000000 in
set_option maxRecDepth 100000 in
theorem c0_there (l : Launch) (D : va_G) (ad : Nat → Nat) (hd : apt 6 ad) (ck : Nat → ClassId) (S : AS) (a : Nat) (hi : iv S) (x : Int32) (b : Bool) : Met l yX0_there wsX0_there ({ frames := 1, cells := 0, slots := 0, locals := 22 }) (PW D (wB ad ck S a) (tyB ck) [.ref (ad 0), .int (x), .int (bI (b))]) (QcM (some (.int (aTh S x))) (fun H => va_P D vwCl (wB ad ck (pTh S x b) a) H) (aB ad)) 0 0 (aB ad) := by
  refine Met.ofW (cc := cX0_there) (maxL := 4) (ret := (some .boolean)) (by decide) rfl ?_
  intro p e s m args below meth c s₁ B hml hv
  obtain ⟨rfl, hP, hK⟩ := hv
  have hx := B.exec
  have hb := B.bytes
  have hr := B.returns
  have hts := atoms_spec (ws := wsX0_there) B.pre
  have hown : s.vm.findClass RX0 = some m.cls := findClass_of_methodNamed B.named
  have hlocks := B.notSynchronized
  have hin0 : ∀ w ∈ wsX00, w ∈ wsX0_there := by decide +kernel
  have hl := lv_entry ([.ref (ad 0), .int (x), .int (bI (b))]) (n := 4) (Nat.le_of_ble_eq_true rfl)
  rw [lg_entry_eq]
  generalize (lg_sl ([.ref (ad 0), .int (x), .int (bI (b))]) ++ List.replicate (4 - (lg_sl ([.ref (ad 0), .int (x), .int (bI (b))])).length) Slot.unset).toArray = ls at hl ⊢
  have hl : lv_has ls 4 [(0, .ref (ad 0)), (1, .int (x)), (2, .int (bI (b)))] := hl
  have hS : va_S (aB ad) s.heap s.heap [] := va_S.rf
  refine lv_iload_n hx hb dX0_there_0 rfl (lv_at hl 1 rfl) ?_
  refine W.callR (W.runS (As := [.int (x)]) (rest := []) ⟨hx, hb, hml, hown, hts⟩ (c0_isRouter l ((x))) (va_cwS 1 hts gX0_there_X0_isRouter rfl rfl rfl (by decide +kernel) ⟨Nat.le_of_ble_eq_true rfl, Nat.le_of_ble_eq_true rfl⟩) preEq rfl rfl hl.1 rfl (lv_room (Nat.le_of_ble_eq_true rfl)) dX0_there_1 ⟨Nat.zero_le _, Nat.zero_le _⟩) ?_
  refine W.eq (g2 := F0 m 4 ls [.int (bI (inR 10 ((x))))]) rfl ?_
  refine xx_if1 (tgt := 9) hx hb dX0_there_4 (by decide) (fun h1 => ?_) (fun h1 => ?_)
  · skip
    obtain ⟨r, hr10, rfl⟩ := inR_t (by decide) h1
    refine lv_aload_n hx hb dX0_there_9 rfl (lv_at hl 0 rfl) ?_
    refine va_get (D := D) (ci := 0) (v := .int (nI (bm (fun i_ => !(sG S i_))))) (C := RX0) (T := TX0) (N := 10) hx hb hts hin0 hown hK hP 0 rfl rfl 1 (by decide) (hts (.fieldLink RX0 13 "ClaimBench" "thereBits" "I") (by decide +kernel)) (fun _ h9 => h9) rfl dX0_there_10 ?_
    refine lv_iload_n hx hb dX0_there_13 rfl (lv_at hl 1 rfl) ?_
    refine W.callR (W.runS (As := [.int (nI (bm (fun i_ => !(sG S i_)))), .int (nI (r))]) (rest := []) ⟨hx, hb, hml, hown, hts⟩ (c0_hasBit l (fun i_ => !(sG S i_)) r (by omega)) (va_cwS 2 hts gX0_there_X0_hasBit rfl rfl rfl (by decide +kernel) ⟨Nat.le_of_ble_eq_true rfl, Nat.le_of_ble_eq_true rfl⟩) preEq rfl rfl hl.1 rfl (lv_room (Nat.le_of_ble_eq_true rfl)) dX0_there_14 ⟨Nat.zero_le _, Nat.zero_le _⟩) ?_
    refine W.eq (g2 := F0 m 17 ls [.int (bI ((fun i_ => !(sG S i_)) r))]) rfl ?_
    refine lv_istore_n (lv' := [(3, .int (bI ((fun i_ => !(sG S i_)) r))), (0, .ref (ad 0)), (1, .int (nI (r))), (2, .int (bI (b)))]) hx hb dX0_there_17 rfl hl (by decide) rfl (fun ls hl => ?_)
    refine lv_aload_n hx hb dX0_there_18 rfl (lv_at hl 1 rfl) ?_
    refine lv_aload_n hx hb dX0_there_19 rfl (lv_at hl 1 rfl) ?_
    refine va_get (D := D) (ci := 0) (v := .int (nI (bm (fun i_ => !(sG S i_))))) (C := RX0) (T := TX0) (N := 10) hx hb hts hin0 hown hK hP 0 rfl rfl 1 (by decide) (hts (.fieldLink RX0 13 "ClaimBench" "thereBits" "I") (by decide +kernel)) (fun _ h9 => h9) rfl dX0_there_20 ?_
    refine lv_iload_n hx hb dX0_there_23 rfl (lv_at hl 2 rfl) ?_
    refine lv_iload_n hx hb dX0_there_24 rfl (lv_at hl 3 rfl) ?_
    refine W.callR (W.runS (As := [.int (nI (bm (fun i_ => !(sG S i_)))), .int (nI (r)), .int (bI (b))]) (rest := [.ref (ad 0)]) ⟨hx, hb, hml, hown, hts⟩ (c0_withBit l (fun i_ => !(sG S i_)) r b (by omega)) (va_cwS 3 hts gX0_there_X0_withBit rfl rfl rfl (by decide +kernel) ⟨Nat.le_of_ble_eq_true rfl, Nat.le_of_ble_eq_true rfl⟩) preEq rfl rfl hl.1 rfl (lv_room (Nat.le_of_ble_eq_true rfl)) dX0_there_25 ⟨Nat.zero_le _, Nat.zero_le _⟩) ?_
    refine W.eq (g2 := F0 m 28 ls [.int (nI (bm (upB (fun i_ => !(sG S i_)) r b))), .ref (ad 0)]) rfl ?_
    refine xx_top (nI (bm (fun i_ => !(upB (sG S) r (!b) i_)))) (congrArg nI (st_th (sG S) r b)) ?_
    refine va_put (D := D) (ci := 0) (v := .int (nI (bm (fun i_ => !(upB (sG S) r (!b) i_))))) (ty := .int) (C := RX0) (T := TX0) (N := 10) hx hb hts hin0 tyX0 tyX0_ok nmX0 hown hK hP (dB hd ck _ _) hS 0 rfl rfl 1 (by decide) (hts (.fieldLink RX0 13 "ClaimBench" "thereBits" "I") (by decide +kernel)) (fun _ h9 => h9) rfl (by decide +kernel) rfl rfl (Nat.le_of_ble_eq_true rfl) dX0_there_28 (fun H locs hP _ hS => ?_)
    have hP : va_P D vwCl (wB ad ck (uG S (upB (sG S) r (!b))) a) H := hP
    refine lv_iload_n hx hb dX0_there_31 rfl (lv_at hl 0 rfl) ?_
    exact W.zret (v := (bI ((fun i_ => !(sG S i_)) r))) (ty := .boolean) hx hb hr (bI_narrow _) (fun t ht hW => ⟨ro_i ((pr1_t (f := fun r => bI (!(sG S r))) (by decide) hr10).symm), by rw [ht, show pTh S (nI r) b = uG S (upB (sG S) r (!b)) from ps1_t (by decide) hr10]; exact hP, hS.F ht⟩) hS.2.2 dX0_there_32
  · skip
    refine lv_iconst (v := nI 0) hx hb dX0_there_7 (by decide) ?_
    exact W.zret (v := (nI (0))) (ty := .boolean) hx hb hr (rfl) (fun t ht hW => ⟨ro_i ((pr1_f h1).symm), by rw [ht, show pTh S x b = S from ps1_f h1]; exact hP, hS.F ht⟩) hS.2.2 dX0_there_8
set_option maxHeartbeats 4000000 in
set_option maxRecDepth 100000 in
theorem c0_deaf (l : Launch) (D : va_G) (ad : Nat → Nat) (hd : apt 6 ad) (ck : Nat → ClassId) (S : AS) (a : Nat) (hi : iv S) (x : Int32) (b : Bool) : Met l yX0_deaf wsX0_deaf ({ frames := 1, cells := 0, slots := 0, locals := 22 }) (PW D (wB ad ck S a) (tyB ck) [.ref (ad 0), .int (x), .int (bI (b))]) (QcM (some (.int (aDf S x))) (fun H => va_P D vwCl (wB ad ck (pDf S x b) a) H) (aB ad)) 0 0 (aB ad) := by
  refine Met.ofW (cc := cX0_deaf) (maxL := 4) (ret := (some .boolean)) (by decide) rfl ?_
  intro p e s m args below meth c s₁ B hml hv
  obtain ⟨rfl, hP, hK⟩ := hv
  have hx := B.exec
  have hb := B.bytes
  have hr := B.returns
  have hts := atoms_spec (ws := wsX0_deaf) B.pre
  have hown : s.vm.findClass RX0 = some m.cls := findClass_of_methodNamed B.named
  have hlocks := B.notSynchronized
  have hin0 : ∀ w ∈ wsX00, w ∈ wsX0_deaf := by decide +kernel
  have hl := lv_entry ([.ref (ad 0), .int (x), .int (bI (b))]) (n := 4) (Nat.le_of_ble_eq_true rfl)
  rw [lg_entry_eq]
  generalize (lg_sl ([.ref (ad 0), .int (x), .int (bI (b))]) ++ List.replicate (4 - (lg_sl ([.ref (ad 0), .int (x), .int (bI (b))])).length) Slot.unset).toArray = ls at hl ⊢
  have hl : lv_has ls 4 [(0, .ref (ad 0)), (1, .int (x)), (2, .int (bI (b)))] := hl
  have hS : va_S (aB ad) s.heap s.heap [] := va_S.rf
  refine lv_iload_n hx hb dX0_deaf_0 rfl (lv_at hl 1 rfl) ?_
  refine W.callR (W.runS (As := [.int (x)]) (rest := []) ⟨hx, hb, hml, hown, hts⟩ (c0_isRouter l ((x))) (va_cwS 1 hts gX0_deaf_X0_isRouter rfl rfl rfl (by decide +kernel) ⟨Nat.le_of_ble_eq_true rfl, Nat.le_of_ble_eq_true rfl⟩) preEq rfl rfl hl.1 rfl (lv_room (Nat.le_of_ble_eq_true rfl)) dX0_deaf_1 ⟨Nat.zero_le _, Nat.zero_le _⟩) ?_
  refine W.eq (g2 := F0 m 4 ls [.int (bI (inR 10 ((x))))]) rfl ?_
  refine xx_if1 (tgt := 9) hx hb dX0_deaf_4 (by decide) (fun h1 => ?_) (fun h1 => ?_)
  · skip
    obtain ⟨r, hr10, rfl⟩ := inR_t (by decide) h1
    refine lv_aload_n hx hb dX0_deaf_9 rfl (lv_at hl 0 rfl) ?_
    refine va_get (D := D) (ci := 0) (v := .int (nI (bm (sD S)))) (C := RX0) (T := TX0) (N := 10) hx hb hts hin0 hown hK hP 0 rfl rfl 2 (by decide) (hts (.fieldLink RX0 16 "ClaimBench" "deafBits" "I") (by decide +kernel)) (fun _ h9 => h9) rfl dX0_deaf_10 ?_
    refine lv_iload_n hx hb dX0_deaf_13 rfl (lv_at hl 1 rfl) ?_
    refine W.callR (W.runS (As := [.int (nI (bm (sD S))), .int (nI (r))]) (rest := []) ⟨hx, hb, hml, hown, hts⟩ (c0_hasBit l (sD S) r (by omega)) (va_cwS 2 hts gX0_deaf_X0_hasBit rfl rfl rfl (by decide +kernel) ⟨Nat.le_of_ble_eq_true rfl, Nat.le_of_ble_eq_true rfl⟩) preEq rfl rfl hl.1 rfl (lv_room (Nat.le_of_ble_eq_true rfl)) dX0_deaf_14 ⟨Nat.zero_le _, Nat.zero_le _⟩) ?_
    refine W.eq (g2 := F0 m 17 ls [.int (bI ((sD S) r))]) rfl ?_
    refine lv_istore_n (lv' := [(3, .int (bI ((sD S) r))), (0, .ref (ad 0)), (1, .int (nI (r))), (2, .int (bI (b)))]) hx hb dX0_deaf_17 rfl hl (by decide) rfl (fun ls hl => ?_)
    refine lv_aload_n hx hb dX0_deaf_18 rfl (lv_at hl 1 rfl) ?_
    refine lv_aload_n hx hb dX0_deaf_19 rfl (lv_at hl 1 rfl) ?_
    refine va_get (D := D) (ci := 0) (v := .int (nI (bm (sD S)))) (C := RX0) (T := TX0) (N := 10) hx hb hts hin0 hown hK hP 0 rfl rfl 2 (by decide) (hts (.fieldLink RX0 16 "ClaimBench" "deafBits" "I") (by decide +kernel)) (fun _ h9 => h9) rfl dX0_deaf_20 ?_
    refine lv_iload_n hx hb dX0_deaf_23 rfl (lv_at hl 2 rfl) ?_
    refine lv_iload_n hx hb dX0_deaf_24 rfl (lv_at hl 3 rfl) ?_
    refine W.callR (W.runS (As := [.int (nI (bm (sD S))), .int (nI (r)), .int (bI (b))]) (rest := [.ref (ad 0)]) ⟨hx, hb, hml, hown, hts⟩ (c0_withBit l (sD S) r b (by omega)) (va_cwS 3 hts gX0_deaf_X0_withBit rfl rfl rfl (by decide +kernel) ⟨Nat.le_of_ble_eq_true rfl, Nat.le_of_ble_eq_true rfl⟩) preEq rfl rfl hl.1 rfl (lv_room (Nat.le_of_ble_eq_true rfl)) dX0_deaf_25 ⟨Nat.zero_le _, Nat.zero_le _⟩) ?_
    refine W.eq (g2 := F0 m 28 ls [.int (nI (bm (upB (sD S) r b))), .ref (ad 0)]) rfl ?_
    refine va_put (D := D) (ci := 0) (v := .int (nI (bm (upB (sD S) r b)))) (ty := .int) (C := RX0) (T := TX0) (N := 10) hx hb hts hin0 tyX0 tyX0_ok nmX0 hown hK hP (dB hd ck _ _) hS 0 rfl rfl 2 (by decide) (hts (.fieldLink RX0 16 "ClaimBench" "deafBits" "I") (by decide +kernel)) (fun _ h9 => h9) rfl (by decide +kernel) rfl rfl (Nat.le_of_ble_eq_true rfl) dX0_deaf_28 (fun H locs hP _ hS => ?_)
    have hP : va_P D vwCl (wB ad ck (uD S (upB (sD S) r b)) a) H := hP
    refine lv_iload_n hx hb dX0_deaf_31 rfl (lv_at hl 0 rfl) ?_
    exact W.zret (v := (bI ((sD S) r))) (ty := .boolean) hx hb hr (bI_narrow _) (fun t ht hW => ⟨ro_i ((pr1_t (f := fun r => bI (sD S r)) (by decide) hr10).symm), by rw [ht, show pDf S (nI r) b = uD S (upB (sD S) r b) from ps1_t (by decide) hr10]; exact hP, hS.F ht⟩) hS.2.2 dX0_deaf_32
  · skip
    refine lv_iconst (v := nI 0) hx hb dX0_deaf_7 (by decide) ?_
    exact W.zret (v := (nI (0))) (ty := .boolean) hx hb hr (rfl) (fun t ht hW => ⟨ro_i ((pr1_f h1).symm), by rw [ht, show pDf S x b = S from ps1_f h1]; exact hP, hS.F ht⟩) hS.2.2 dX0_deaf_8
set_option maxHeartbeats 4000000 in
set_option maxRecDepth 100000 in
theorem c1_deaf (l : Launch) (D : va_G) (ad : Nat → Nat) (hd : apt 9 ad) (ck : Nat → ClassId) (S : AS) (a : Nat) (hi : iv S) (x : Int32) (b : Bool) : Met l yX1_deaf wsX1_deaf ({ frames := 1, cells := 0, slots := 0, locals := 20 }) (PW D (wM ad ck S a) (tyM ck) [.ref (ad 0), .int (x), .int (bI (b))]) (QcM (some (.int (aDf S x))) (fun H => va_P D vwCl (wM ad ck (pDf S x b) a) H) (aM ad)) 0 0 (aM ad) := by
  refine Met.ofW (cc := cX1_deaf) (maxL := 4) (ret := (some .boolean)) (by decide) rfl ?_
  intro p e s m args below meth c s₁ B hml hv
  obtain ⟨rfl, hP, hK⟩ := hv
  have hx := B.exec
  have hb := B.bytes
  have hr := B.returns
  have hts := atoms_spec (ws := wsX1_deaf) B.pre
  have hown : s.vm.findClass RX1 = some m.cls := findClass_of_methodNamed B.named
  have hlocks := B.notSynchronized
  have hin0 : ∀ w ∈ wsX10, w ∈ wsX1_deaf := by decide +kernel
  have hl := lv_entry ([.ref (ad 0), .int (x), .int (bI (b))]) (n := 4) (Nat.le_of_ble_eq_true rfl)
  rw [lg_entry_eq]
  generalize (lg_sl ([.ref (ad 0), .int (x), .int (bI (b))]) ++ List.replicate (4 - (lg_sl ([.ref (ad 0), .int (x), .int (bI (b))])).length) Slot.unset).toArray = ls at hl ⊢
  have hl : lv_has ls 4 [(0, .ref (ad 0)), (1, .int (x)), (2, .int (bI (b)))] := hl
  have hS : va_S (aM ad) s.heap s.heap [] := va_S.rf
  refine lv_iload_n hx hb dX1_deaf_0 rfl (lv_at hl 1 rfl) ?_
  refine W.callR (W.runS (As := [.int (x)]) (rest := []) ⟨hx, hb, hml, hown, hts⟩ (c1_isRouter l ((x))) (va_cwS 1 hts gX1_deaf_X1_isRouter rfl rfl rfl (by decide +kernel) ⟨Nat.le_of_ble_eq_true rfl, Nat.le_of_ble_eq_true rfl⟩) preEq rfl rfl hl.1 rfl (lv_room (Nat.le_of_ble_eq_true rfl)) dX1_deaf_1 ⟨Nat.zero_le _, Nat.zero_le _⟩) ?_
  refine W.eq (g2 := F0 m 4 ls [.int (bI (inR 10 ((x))))]) rfl ?_
  refine xx_if1 (tgt := 9) hx hb dX1_deaf_4 (by decide) (fun h1 => ?_) (fun h1 => ?_)
  · skip
    obtain ⟨r, hr10, rfl⟩ := inR_t (by decide) h1
    refine lv_aload_n hx hb dX1_deaf_9 rfl (lv_at hl 0 rfl) ?_
    refine va_get (D := D) (ci := 1) (v := .ref (ad 2)) (C := RX1) (T := TX1) (N := 11) hx hb hts hin0 hown hK hP 0 rfl rfl 3 (by decide) (hts (.fieldLink RX1 13 "ClaimBenchModel" "isDeaf" "[Z") (by decide +kernel)) (fun _ h9 => h9) rfl dX1_deaf_10 ?_
    refine lv_iload_n hx hb dX1_deaf_13 rfl (lv_at hl 1 rfl) ?_
    refine xx_zld hx hb hK hP 2 1 (fun c_ => bI (sD S c_)) rfl rfl (j := r) (by omega) (by decide) dX1_deaf_14 ?_
    refine W.eq (g2 := F0 m 15 ls [.int (bI (sD S r))]) rfl ?_
    refine lv_istore_n (lv' := [(3, .int (bI (sD S r))), (0, .ref (ad 0)), (1, .int (nI (r))), (2, .int (bI (b)))]) hx hb dX1_deaf_15 rfl hl (by decide) rfl (fun ls hl => ?_)
    refine lv_aload_n hx hb dX1_deaf_16 rfl (lv_at hl 1 rfl) ?_
    refine va_get (D := D) (ci := 1) (v := .ref (ad 2)) (C := RX1) (T := TX1) (N := 11) hx hb hts hin0 hown hK hP 0 rfl rfl 3 (by decide) (hts (.fieldLink RX1 13 "ClaimBenchModel" "isDeaf" "[Z") (by decide +kernel)) (fun _ h9 => h9) rfl dX1_deaf_17 ?_
    refine lv_iload_n hx hb dX1_deaf_20 rfl (lv_at hl 2 rfl) ?_
    refine lv_iload_n hx hb dX1_deaf_21 rfl (lv_at hl 3 rfl) ?_
    refine xx_zst hx hb hK hP (dM hd ck _ _) hS 2 1 rfl rfl (j := r) (by omega) (by decide) (fun c_ => bI (sD (uD S (upB (sD S) r b)) c_)) (st_b (sD S) r b) dX1_deaf_22 (fun H locs hP hS => ?_)
    have hP : va_P D vwCl (wM ad ck (uD S (upB (sD S) r b)) a) H := hP
    refine lv_iload_n hx hb dX1_deaf_23 rfl (lv_at hl 0 rfl) ?_
    exact W.zret (v := (bI (sD S r))) (ty := .boolean) hx hb hr (bI_narrow _) (fun t ht hW => ⟨ro_i ((pr1_t (f := fun r => bI (sD S r)) (by decide) hr10).symm), by rw [ht, show pDf S (nI r) b = uD S (upB (sD S) r b) from ps1_t (by decide) hr10]; exact hP, hS.F ht⟩) hS.2.2 dX1_deaf_24
  · skip
    refine lv_iconst (v := nI 0) hx hb dX1_deaf_7 (by decide) ?_
    exact W.zret (v := (nI (0))) (ty := .boolean) hx hb hr (rfl) (fun t ht hW => ⟨ro_i ((pr1_f h1).symm), by rw [ht, show pDf S x b = S from ps1_f h1]; exact hP, hS.F ht⟩) hS.2.2 dX1_deaf_8
set_option maxHeartbeats 4000000 in
set_option maxRecDepth 100000 in
theorem c1_there (l : Launch) (D : va_G) (ad : Nat → Nat) (hd : apt 9 ad) (ck : Nat → ClassId) (S : AS) (a : Nat) (hi : iv S) (x : Int32) (b : Bool) : Met l yX1_there wsX1_there ({ frames := 1, cells := 0, slots := 0, locals := 20 }) (PW D (wM ad ck S a) (tyM ck) [.ref (ad 0), .int (x), .int (bI (b))]) (QcM (some (.int (aTh S x))) (fun H => va_P D vwCl (wM ad ck (pTh S x b) a) H) (aM ad)) 0 0 (aM ad) := by
  refine Met.ofW (cc := cX1_there) (maxL := 4) (ret := (some .boolean)) (by decide) rfl ?_
  intro p e s m args below meth c s₁ B hml hv
  obtain ⟨rfl, hP, hK⟩ := hv
  have hx := B.exec
  have hb := B.bytes
  have hr := B.returns
  have hts := atoms_spec (ws := wsX1_there) B.pre
  have hown : s.vm.findClass RX1 = some m.cls := findClass_of_methodNamed B.named
  have hlocks := B.notSynchronized
  have hin0 : ∀ w ∈ wsX10, w ∈ wsX1_there := by decide +kernel
  have hl := lv_entry ([.ref (ad 0), .int (x), .int (bI (b))]) (n := 4) (Nat.le_of_ble_eq_true rfl)
  rw [lg_entry_eq]
  generalize (lg_sl ([.ref (ad 0), .int (x), .int (bI (b))]) ++ List.replicate (4 - (lg_sl ([.ref (ad 0), .int (x), .int (bI (b))])).length) Slot.unset).toArray = ls at hl ⊢
  have hl : lv_has ls 4 [(0, .ref (ad 0)), (1, .int (x)), (2, .int (bI (b)))] := hl
  have hS : va_S (aM ad) s.heap s.heap [] := va_S.rf
  refine lv_iload_n hx hb dX1_there_0 rfl (lv_at hl 1 rfl) ?_
  refine W.callR (W.runS (As := [.int (x)]) (rest := []) ⟨hx, hb, hml, hown, hts⟩ (c1_isRouter l ((x))) (va_cwS 1 hts gX1_there_X1_isRouter rfl rfl rfl (by decide +kernel) ⟨Nat.le_of_ble_eq_true rfl, Nat.le_of_ble_eq_true rfl⟩) preEq rfl rfl hl.1 rfl (lv_room (Nat.le_of_ble_eq_true rfl)) dX1_there_1 ⟨Nat.zero_le _, Nat.zero_le _⟩) ?_
  refine W.eq (g2 := F0 m 4 ls [.int (bI (inR 10 ((x))))]) rfl ?_
  refine xx_if1 (tgt := 9) hx hb dX1_there_4 (by decide) (fun h1 => ?_) (fun h1 => ?_)
  · skip
    obtain ⟨r, hr10, rfl⟩ := inR_t (by decide) h1
    refine lv_aload_n hx hb dX1_there_9 rfl (lv_at hl 0 rfl) ?_
    refine va_get (D := D) (ci := 1) (v := .ref (ad 1)) (C := RX1) (T := TX1) (N := 11) hx hb hts hin0 hown hK hP 0 rfl rfl 2 (by decide) (hts (.fieldLink RX1 7 "ClaimBenchModel" "isGone" "[Z") (by decide +kernel)) (fun _ h9 => h9) rfl dX1_there_10 ?_
    refine lv_iload_n hx hb dX1_there_13 rfl (lv_at hl 1 rfl) ?_
    refine xx_zld hx hb hK hP 1 0 (fun c_ => bI (sG S c_)) rfl rfl (j := r) (by omega) (by decide) dX1_there_14 ?_
    refine W.eq (g2 := F0 m 15 ls [.int (bI (sG S r))]) rfl ?_
    refine xx_if1 (tgt := 22) hx hb dX1_there_15 (by decide) (fun h2 => ?_) (fun h2 => ?_)
    · skip
      refine lv_iconst (v := nI 0) hx hb dX1_there_22 (by decide) ?_
      refine lv_istore_n (lv' := [(3, .int (nI (0))), (0, .ref (ad 0)), (1, .int (nI (r))), (2, .int (bI (b)))]) hx hb dX1_there_23 rfl hl (by decide) rfl (fun ls hl => ?_)
      refine lv_aload_n hx hb dX1_there_24 rfl (lv_at hl 1 rfl) ?_
      refine va_get (D := D) (ci := 1) (v := .ref (ad 1)) (C := RX1) (T := TX1) (N := 11) hx hb hts hin0 hown hK hP 0 rfl rfl 2 (by decide) (hts (.fieldLink RX1 7 "ClaimBenchModel" "isGone" "[Z") (by decide +kernel)) (fun _ h9 => h9) rfl dX1_there_25 ?_
      refine lv_iload_n hx hb dX1_there_28 rfl (lv_at hl 2 rfl) ?_
      refine lv_iload_n hx hb dX1_there_29 rfl (lv_at hl 3 rfl) ?_
      refine xx_if1 (tgt := 37) hx hb dX1_there_30 (by decide) (fun h3 => ?_) (fun h3 => ?_)
      · skip
        refine lv_iconst (v := nI 0) hx hb dX1_there_37 (by decide) ?_
        refine xx_top (bI false) rfl ?_
        refine xx_zst hx hb hK hP (dM hd ck _ _) hS 1 0 rfl rfl (j := r) (by omega) (by decide) (fun c_ => bI (sG (uG S (upB (sG S) r false)) c_)) (st_b (sG S) r false) dX1_there_38 (fun H locs hP hS => ?_)
        have hP : va_P D vwCl (wM ad ck (uG S (upB (sG S) r false)) a) H := hP
        refine lv_iload_n hx hb dX1_there_39 rfl (lv_at hl 0 rfl) ?_
        exact W.zret (v := (nI (0))) (ty := .boolean) hx hb hr (rfl) (fun t ht hW => ⟨ro_i ((by unfold aTh; rw [pr1_t (by decide) hr10, h2]; rfl)), by rw [ht, show pTh S (nI r) b = uG S (upB (sG S) r false) from (by unfold pTh; rw [ps1_t (by decide) hr10, h3]; rfl)]; exact hP, hS.F ht⟩) hS.2.2 dX1_there_40
      · skip
        refine lv_iconst (v := nI 1) hx hb dX1_there_33 (by decide) ?_
        refine lv_goto (tgt := 38) hx hb dX1_there_34 (by decide) ?_
        refine xx_top (bI true) rfl ?_
        refine xx_zst hx hb hK hP (dM hd ck _ _) hS 1 0 rfl rfl (j := r) (by omega) (by decide) (fun c_ => bI (sG (uG S (upB (sG S) r true)) c_)) (st_b (sG S) r true) dX1_there_38 (fun H locs hP hS => ?_)
        have hP : va_P D vwCl (wM ad ck (uG S (upB (sG S) r true)) a) H := hP
        refine lv_iload_n hx hb dX1_there_39 rfl (lv_at hl 0 rfl) ?_
        exact W.zret (v := (nI (0))) (ty := .boolean) hx hb hr (rfl) (fun t ht hW => ⟨ro_i ((by unfold aTh; rw [pr1_t (by decide) hr10, h2]; rfl)), by rw [ht, show pTh S (nI r) b = uG S (upB (sG S) r true) from (by unfold pTh; rw [ps1_t (by decide) hr10, h3]; rfl)]; exact hP, hS.F ht⟩) hS.2.2 dX1_there_40
    · skip
      refine lv_iconst (v := nI 1) hx hb dX1_there_18 (by decide) ?_
      refine lv_goto (tgt := 23) hx hb dX1_there_19 (by decide) ?_
      refine lv_istore_n (lv' := [(3, .int (nI (1))), (0, .ref (ad 0)), (1, .int (nI (r))), (2, .int (bI (b)))]) hx hb dX1_there_23 rfl hl (by decide) rfl (fun ls hl => ?_)
      refine lv_aload_n hx hb dX1_there_24 rfl (lv_at hl 1 rfl) ?_
      refine va_get (D := D) (ci := 1) (v := .ref (ad 1)) (C := RX1) (T := TX1) (N := 11) hx hb hts hin0 hown hK hP 0 rfl rfl 2 (by decide) (hts (.fieldLink RX1 7 "ClaimBenchModel" "isGone" "[Z") (by decide +kernel)) (fun _ h9 => h9) rfl dX1_there_25 ?_
      refine lv_iload_n hx hb dX1_there_28 rfl (lv_at hl 2 rfl) ?_
      refine lv_iload_n hx hb dX1_there_29 rfl (lv_at hl 3 rfl) ?_
      refine xx_if1 (tgt := 37) hx hb dX1_there_30 (by decide) (fun h4 => ?_) (fun h4 => ?_)
      · skip
        refine lv_iconst (v := nI 0) hx hb dX1_there_37 (by decide) ?_
        refine xx_top (bI false) rfl ?_
        refine xx_zst hx hb hK hP (dM hd ck _ _) hS 1 0 rfl rfl (j := r) (by omega) (by decide) (fun c_ => bI (sG (uG S (upB (sG S) r false)) c_)) (st_b (sG S) r false) dX1_there_38 (fun H locs hP hS => ?_)
        have hP : va_P D vwCl (wM ad ck (uG S (upB (sG S) r false)) a) H := hP
        refine lv_iload_n hx hb dX1_there_39 rfl (lv_at hl 0 rfl) ?_
        exact W.zret (v := (nI (1))) (ty := .boolean) hx hb hr (rfl) (fun t ht hW => ⟨ro_i ((by unfold aTh; rw [pr1_t (by decide) hr10, h2]; rfl)), by rw [ht, show pTh S (nI r) b = uG S (upB (sG S) r false) from (by unfold pTh; rw [ps1_t (by decide) hr10, h4]; rfl)]; exact hP, hS.F ht⟩) hS.2.2 dX1_there_40
      · skip
        refine lv_iconst (v := nI 1) hx hb dX1_there_33 (by decide) ?_
        refine lv_goto (tgt := 38) hx hb dX1_there_34 (by decide) ?_
        refine xx_top (bI true) rfl ?_
        refine xx_zst hx hb hK hP (dM hd ck _ _) hS 1 0 rfl rfl (j := r) (by omega) (by decide) (fun c_ => bI (sG (uG S (upB (sG S) r true)) c_)) (st_b (sG S) r true) dX1_there_38 (fun H locs hP hS => ?_)
        have hP : va_P D vwCl (wM ad ck (uG S (upB (sG S) r true)) a) H := hP
        refine lv_iload_n hx hb dX1_there_39 rfl (lv_at hl 0 rfl) ?_
        exact W.zret (v := (nI (1))) (ty := .boolean) hx hb hr (rfl) (fun t ht hW => ⟨ro_i ((by unfold aTh; rw [pr1_t (by decide) hr10, h2]; rfl)), by rw [ht, show pTh S (nI r) b = uG S (upB (sG S) r true) from (by unfold pTh; rw [ps1_t (by decide) hr10, h4]; rfl)]; exact hP, hS.F ht⟩) hS.2.2 dX1_there_40
  · skip
    refine lv_iconst (v := nI 0) hx hb dX1_there_7 (by decide) ?_
    exact W.zret (v := (nI (0))) (ty := .boolean) hx hb hr (rfl) (fun t ht hW => ⟨ro_i ((pr1_f h1).symm), by rw [ht, show pTh S x b = S from ps1_f h1]; exact hP, hS.F ht⟩) hS.2.2 dX1_there_8
set_option maxHeartbeats 4000000 in
set_option maxRecDepth 100000 in
theorem c0_sayClaim (l : Launch) (D : va_G) (ad : Nat → Nat) (hd : apt 6 ad) (ck : Nat → ClassId) (S : AS) (a : Nat) (hi : iv S) (r X : Nat) (hX : X % 100 = r) (hn : sN S < 1023) : Met l yX0_sayClaim wsX0_sayClaim ({ frames := 0, cells := 0, slots := 0, locals := 0 }) (PW D (wB ad ck S a) (tyB ck) [.ref (ad 0), .int (nI (r))]) (QcM none (fun H => va_P D vwCl (wB ad ck (pSay S X) a) H) (aB ad)) 0 0 (aB ad) := by
  refine Met.ofW (cc := cX0_sayClaim) (maxL := 2) (ret := none) (by decide) rfl ?_
  intro p e s m args below meth c s₁ B hml hv
  obtain ⟨rfl, hP, hK⟩ := hv
  have hx := B.exec
  have hb := B.bytes
  have hr := B.returns
  have hts := atoms_spec (ws := wsX0_sayClaim) B.pre
  have hown : s.vm.findClass RX0 = some m.cls := findClass_of_methodNamed B.named
  have hlocks := B.notSynchronized
  have hin0 : ∀ w ∈ wsX00, w ∈ wsX0_sayClaim := by decide +kernel
  have hl := lv_entry ([.ref (ad 0), .int (nI (r))]) (n := 2) (Nat.le_of_ble_eq_true rfl)
  rw [lg_entry_eq]
  generalize (lg_sl ([.ref (ad 0), .int (nI (r))]) ++ List.replicate (2 - (lg_sl ([.ref (ad 0), .int (nI (r))])).length) Slot.unset).toArray = ls at hl ⊢
  have hl : lv_has ls 2 [(0, .ref (ad 0)), (1, .int (nI (r)))] := hl
  have hS : va_S (aB ad) s.heap s.heap [] := va_S.rf
  refine lv_aload_n hx hb dX0_sayClaim_0 rfl (lv_at hl 0 rfl) ?_
  refine va_get (D := D) (ci := 0) (v := .int (nI (sN S))) (C := RX0) (T := TX0) (N := 10) hx hb hts hin0 hown hK hP 0 rfl rfl 9 (by decide) (hts (.fieldLink RX0 38 "ClaimBench" "rowLength" "I") (by decide +kernel)) (fun _ h9 => h9) rfl dX0_sayClaim_1 ?_
  refine lv_sipush (v := nI 1023) hx hb dX0_sayClaim_4 (by decide) ?_
  refine xx_ge (tgt := 30) hx hb dX0_sayClaim_7 (by decide) (by omega) (by omega) (fun h1 => ?_) (fun h1 => ?_)
  · skip
    exact absurd h1 (by omega)
  · skip
    refine lv_aload_n hx hb dX0_sayClaim_10 rfl (lv_at hl 0 rfl) ?_
    refine va_get (D := D) (ci := 0) (v := .ref (ad 5)) (C := RX0) (T := TX0) (N := 10) hx hb hts hin0 hown hK hP 0 rfl rfl 8 (by decide) (hts (.fieldLink RX0 35 "ClaimBench" "row" "[I") (by decide +kernel)) (fun _ h9 => h9) rfl dX0_sayClaim_11 ?_
    refine lv_aload_n hx hb dX0_sayClaim_14 rfl (lv_at hl 0 rfl) ?_
    refine va_get (D := D) (ci := 0) (v := .int (nI (sN S))) (C := RX0) (T := TX0) (N := 10) hx hb hts hin0 hown hK hP 0 rfl rfl 9 (by decide) (hts (.fieldLink RX0 38 "ClaimBench" "rowLength" "I") (by decide +kernel)) (fun _ h9 => h9) rfl dX0_sayClaim_15 ?_
    refine lv_iload_n hx hb dX0_sayClaim_18 rfl (lv_at hl 1 rfl) ?_
    refine xx_ast hx hb hK hP (dB hd ck _ _) hS 5 4 rfl rfl (j := sN S) (by omega) (by decide) (fun c_ => nI (sR (uR S (upN (sR S) (sN S) X)) c_ % 100)) (st_row S (sN S) r X hX) dX0_sayClaim_19 (fun H locs hP hS => ?_)
    have hP : va_P D vwCl (wB ad ck (uR S (upN (sR S) (sN S) X)) a) H := hP
    refine lv_aload_n hx hb dX0_sayClaim_20 rfl (lv_at hl 0 rfl) ?_
    refine lv_dup hx hb dX0_sayClaim_21 rfl ?_
    refine va_get (D := D) (ci := 0) (v := .int (nI (sN (uR S (upN (sR S) (sN S) X))))) (C := RX0) (T := TX0) (N := 10) hx hb hts hin0 hown hK hP 0 rfl rfl 9 (by decide) (hts (.fieldLink RX0 38 "ClaimBench" "rowLength" "I") (by decide +kernel)) (fun _ h9 => h9) rfl dX0_sayClaim_22 ?_
    refine lv_iconst (v := nI 1) hx hb dX0_sayClaim_25 (by decide) ?_
    refine xx_add hx hb dX0_sayClaim_26 ?_
    refine va_put (D := D) (ci := 0) (v := .int (nI ((sN (uR S (upN (sR S) (sN S) X))) + 1))) (ty := .int) (C := RX0) (T := TX0) (N := 10) hx hb hts hin0 tyX0 tyX0_ok nmX0 hown hK hP (dB hd ck _ _) hS 0 rfl rfl 9 (by decide) (hts (.fieldLink RX0 38 "ClaimBench" "rowLength" "I") (by decide +kernel)) (fun _ h9 => h9) rfl (by decide +kernel) rfl rfl (Nat.le_of_ble_eq_true rfl) dX0_sayClaim_27 (fun H locs hP _ hS => ?_)
    have hP : va_P D vwCl (wB ad ck (pSay S X) a) H := hP
    exact W.vret hx hb hr (fun t ht hW => ⟨rfl, by rw [ht]; exact hP, hS.F ht⟩) hS.2.2 dX0_sayClaim_30
set_option maxHeartbeats 4000000 in
set_option maxRecDepth 100000 in
theorem c0_keepIfDue (l : Launch) (D : va_G) (ad : Nat → Nat) (hd : apt 6 ad) (ck : Nat → ClassId) (S : AS) (a : Nat) (hi : iv S) (k h : Nat) (hk : k < 160) (hh : h ≤ 1999909) : Met l yX0_keepIfDue wsX0_keepIfDue ({ frames := 2, cells := 0, slots := 0, locals := 43 }) (PW D (wB ad ck S a) (tyB ck) [.ref (ad 0), .int (nI (k)), .int (nI (h))]) (QcM none (fun H => va_P D vwCl (wB ad ck (pKeep S k h) a) H) (aB ad)) 0 0 (aB ad) := by
  refine Met.ofW (cc := cX0_keepIfDue) (maxL := 4) (ret := none) (by decide) rfl ?_
  intro p e s m args below meth c s₁ B hml hv
  obtain ⟨rfl, hP, hK⟩ := hv
  have hx := B.exec
  have hb := B.bytes
  have hr := B.returns
  have hts := atoms_spec (ws := wsX0_keepIfDue) B.pre
  have hown : s.vm.findClass RX0 = some m.cls := findClass_of_methodNamed B.named
  have hlocks := B.notSynchronized
  have hin0 : ∀ w ∈ wsX00, w ∈ wsX0_keepIfDue := by decide +kernel
  have hl := lv_entry ([.ref (ad 0), .int (nI (k)), .int (nI (h))]) (n := 4) (Nat.le_of_ble_eq_true rfl)
  rw [lg_entry_eq]
  generalize (lg_sl ([.ref (ad 0), .int (nI (k)), .int (nI (h))]) ++ List.replicate (4 - (lg_sl ([.ref (ad 0), .int (nI (k)), .int (nI (h))])).length) Slot.unset).toArray = ls at hl ⊢
  have hl : lv_has ls 4 [(0, .ref (ad 0)), (1, .int (nI (k))), (2, .int (nI (h)))] := hl
  have hS : va_S (aB ad) s.heap s.heap [] := va_S.rf
  have hT := hi.1
  have hC := hi.2.2.1 k
  have hU := hi.2.2.2.1 k
  refine lv_aload_n hx hb dX0_keepIfDue_0 rfl (lv_at hl 0 rfl) ?_
  refine va_get (D := D) (ci := 0) (v := .ref (ad 3)) (C := RX0) (T := TX0) (N := 10) hx hb hts hin0 hown hK hP 0 rfl rfl 6 (by decide) (hts (.fieldLink RX0 29 "ClaimBench" "keptClaims" "[I") (by decide +kernel)) (fun _ h9 => h9) rfl dX0_keepIfDue_1 ?_
  refine lv_iload_n hx hb dX0_keepIfDue_4 rfl (lv_at hl 1 rfl) ?_
  refine xx_ald hx hb hK hP 3 2 (fun c_ => nI (sC S c_)) rfl rfl (j := k) (by omega) (by decide) dX0_keepIfDue_5 ?_
  refine W.eq (g2 := F0 m 6 ls [.int (nI (sC S k))]) rfl ?_
  refine lv_istore_n (lv' := [(3, .int (nI (sC S k))), (0, .ref (ad 0)), (1, .int (nI (k))), (2, .int (nI (h)))]) hx hb dX0_keepIfDue_6 rfl hl (by decide) rfl (fun ls hl => ?_)
  refine lv_aload_n hx hb dX0_keepIfDue_7 rfl (lv_at hl 1 rfl) ?_
  refine lv_iload_n hx hb dX0_keepIfDue_8 rfl (lv_at hl 2 rfl) ?_
  refine W.callR (W.runV (As := [.int (nI (k))]) (rest := []) ⟨hx, hb, hml, hown, hts⟩ (c0_keepsOne l D ad ck S a hi k (by omega)) (cwV 1 hts gX0_keepIfDue_X0_keepsOne rfl rfl rfl (by decide +kernel) ⟨Nat.le_of_ble_eq_true rfl, Nat.le_of_ble_eq_true rfl⟩) (PW_pre hK hP (ci := 0) rfl rfl) rfl rfl hl.1 rfl (lv_room (Nat.le_of_ble_eq_true rfl)) dX0_keepIfDue_9 ⟨Nat.zero_le _, Nat.zero_le _⟩) ?_
  refine W.eq (g2 := F0 m 12 ls [.int (bI (pK S k))]) rfl ?_
  refine xx_if0 (tgt := 34) hx hb dX0_keepIfDue_12 (by decide) (fun h1 => ?_) (fun h1 => ?_)
  · skip
    refine lv_aload_n hx hb dX0_keepIfDue_34 rfl (lv_at hl 1 rfl) ?_
    refine va_get (D := D) (ci := 0) (v := .ref (ad 3)) (C := RX0) (T := TX0) (N := 10) hx hb hts hin0 hown hK hP 0 rfl rfl 6 (by decide) (hts (.fieldLink RX0 29 "ClaimBench" "keptClaims" "[I") (by decide +kernel)) (fun _ h9 => h9) rfl dX0_keepIfDue_35 ?_
    refine lv_iload_n hx hb dX0_keepIfDue_38 rfl (lv_at hl 2 rfl) ?_
    refine lv_iload_n hx hb dX0_keepIfDue_39 rfl (lv_at hl 3 rfl) ?_
    refine xx_ast hx hb hK hP (dB hd ck _ _) hS 3 2 rfl rfl (j := k) (by omega) (by decide) (fun c_ => nI (sC (uC S (upN (sC S) k h)) c_)) (st_n (sC S) k h) dX0_keepIfDue_40 (fun H locs hP hS => ?_)
    have hP : va_P D vwCl (wB ad ck (uC S (upN (sC S) k h)) a) H := hP
    refine lv_aload_n hx hb dX0_keepIfDue_41 rfl (lv_at hl 1 rfl) ?_
    refine va_get (D := D) (ci := 0) (v := .ref (ad 4)) (C := RX0) (T := TX0) (N := 10) hx hb hts hin0 hown hK hP 0 rfl rfl 7 (by decide) (hts (.fieldLink RX0 32 "ClaimBench" "keptUntil" "[I") (by decide +kernel)) (fun _ h9 => h9) rfl dX0_keepIfDue_42 ?_
    refine lv_iload_n hx hb dX0_keepIfDue_45 rfl (lv_at hl 2 rfl) ?_
    refine lv_aload_n hx hb dX0_keepIfDue_46 rfl (lv_at hl 1 rfl) ?_
    refine va_get (D := D) (ci := 0) (v := .int (nI (sT (uC S (upN (sC S) k h))))) (C := RX0) (T := TX0) (N := 10) hx hb hts hin0 hown hK hP 0 rfl rfl 0 (by decide) (hts (.fieldLink RX0 7 "ClaimBench" "time" "I") (by decide +kernel)) (fun _ h9 => h9) rfl dX0_keepIfDue_47 ?_
    refine lv_bipush (v := nI 60) hx hb dX0_keepIfDue_50 (by decide) ?_
    refine xx_add hx hb dX0_keepIfDue_52 ?_
    refine xx_ast hx hb hK hP (dB hd ck _ _) hS 4 3 rfl rfl (j := k) (by omega) (by decide) (fun c_ => nI (sU (uU (uC S (upN (sC S) k h)) (upN (sU S) k (sT S + 60))) c_)) (st_n (sU S) k (sT S + 60)) dX0_keepIfDue_53 (fun H locs hP hS => ?_)
    have hP : va_P D vwCl (wB ad ck (uU (uC S (upN (sC S) k h)) (upN (sU S) k (sT S + 60))) a) H := hP
    exact W.vret hx hb hr (fun t ht hW => ⟨rfl, by rw [ht, show pKeep S k h = _ from if_pos (by rw [h1]; rfl)]; exact hP, hS.F ht⟩) hS.2.2 dX0_keepIfDue_54
  · skip
    refine lv_iload_n hx hb dX0_keepIfDue_15 rfl (lv_at hl 3 rfl) ?_
    refine lv_iload_n hx hb dX0_keepIfDue_16 rfl (lv_at hl 0 rfl) ?_
    refine W.callR (W.runS (As := [.int (nI (h)), .int (nI (sC S k))]) (rest := []) ⟨hx, hb, hml, hown, hts⟩ (c0_isBetter l h (sC S k) (by omega) (by omega)) (va_cwS 2 hts gX0_keepIfDue_X0_isBetter rfl rfl rfl (by decide +kernel) ⟨Nat.le_of_ble_eq_true rfl, Nat.le_of_ble_eq_true rfl⟩) preEq rfl rfl hl.1 rfl (lv_room (Nat.le_of_ble_eq_true rfl)) dX0_keepIfDue_17 ⟨Nat.zero_le _, Nat.zero_le _⟩) ?_
    refine W.eq (g2 := F0 m 20 ls [.int (bI (pB h (sC S k)))]) rfl ?_
    refine xx_if1 (tgt := 34) hx hb dX0_keepIfDue_20 (by decide) (fun h2 => ?_) (fun h2 => ?_)
    · skip
      refine lv_aload_n hx hb dX0_keepIfDue_34 rfl (lv_at hl 1 rfl) ?_
      refine va_get (D := D) (ci := 0) (v := .ref (ad 3)) (C := RX0) (T := TX0) (N := 10) hx hb hts hin0 hown hK hP 0 rfl rfl 6 (by decide) (hts (.fieldLink RX0 29 "ClaimBench" "keptClaims" "[I") (by decide +kernel)) (fun _ h9 => h9) rfl dX0_keepIfDue_35 ?_
      refine lv_iload_n hx hb dX0_keepIfDue_38 rfl (lv_at hl 2 rfl) ?_
      refine lv_iload_n hx hb dX0_keepIfDue_39 rfl (lv_at hl 3 rfl) ?_
      refine xx_ast hx hb hK hP (dB hd ck _ _) hS 3 2 rfl rfl (j := k) (by omega) (by decide) (fun c_ => nI (sC (uC S (upN (sC S) k h)) c_)) (st_n (sC S) k h) dX0_keepIfDue_40 (fun H locs hP hS => ?_)
      have hP : va_P D vwCl (wB ad ck (uC S (upN (sC S) k h)) a) H := hP
      refine lv_aload_n hx hb dX0_keepIfDue_41 rfl (lv_at hl 1 rfl) ?_
      refine va_get (D := D) (ci := 0) (v := .ref (ad 4)) (C := RX0) (T := TX0) (N := 10) hx hb hts hin0 hown hK hP 0 rfl rfl 7 (by decide) (hts (.fieldLink RX0 32 "ClaimBench" "keptUntil" "[I") (by decide +kernel)) (fun _ h9 => h9) rfl dX0_keepIfDue_42 ?_
      refine lv_iload_n hx hb dX0_keepIfDue_45 rfl (lv_at hl 2 rfl) ?_
      refine lv_aload_n hx hb dX0_keepIfDue_46 rfl (lv_at hl 1 rfl) ?_
      refine va_get (D := D) (ci := 0) (v := .int (nI (sT (uC S (upN (sC S) k h))))) (C := RX0) (T := TX0) (N := 10) hx hb hts hin0 hown hK hP 0 rfl rfl 0 (by decide) (hts (.fieldLink RX0 7 "ClaimBench" "time" "I") (by decide +kernel)) (fun _ h9 => h9) rfl dX0_keepIfDue_47 ?_
      refine lv_bipush (v := nI 60) hx hb dX0_keepIfDue_50 (by decide) ?_
      refine xx_add hx hb dX0_keepIfDue_52 ?_
      refine xx_ast hx hb hK hP (dB hd ck _ _) hS 4 3 rfl rfl (j := k) (by omega) (by decide) (fun c_ => nI (sU (uU (uC S (upN (sC S) k h)) (upN (sU S) k (sT S + 60))) c_)) (st_n (sU S) k (sT S + 60)) dX0_keepIfDue_53 (fun H locs hP hS => ?_)
      have hP : va_P D vwCl (wB ad ck (uU (uC S (upN (sC S) k h)) (upN (sU S) k (sT S + 60))) a) H := hP
      exact W.vret hx hb hr (fun t ht hW => ⟨rfl, by rw [ht, show pKeep S k h = _ from if_pos (by rw [h1, h2]; rfl)]; exact hP, hS.F ht⟩) hS.2.2 dX0_keepIfDue_54
    · skip
      refine lv_iload_n hx hb dX0_keepIfDue_23 rfl (lv_at hl 3 rfl) ?_
      refine W.callR (W.runS (As := [.int (nI (h))]) (rest := []) ⟨hx, hb, hml, hown, hts⟩ (c0_routerOf l h (by omega)) (va_cwS 1 hts gX0_keepIfDue_X0_routerOf rfl rfl rfl (by decide +kernel) ⟨Nat.le_of_ble_eq_true rfl, Nat.le_of_ble_eq_true rfl⟩) preEq rfl rfl hl.1 rfl (lv_room (Nat.le_of_ble_eq_true rfl)) dX0_keepIfDue_24 ⟨Nat.zero_le _, Nat.zero_le _⟩) ?_
      refine W.eq (g2 := F0 m 27 ls [.int (nI (h % 100))]) rfl ?_
      refine lv_iload_n hx hb dX0_keepIfDue_27 rfl (lv_at hl 0 rfl) ?_
      refine W.callR (W.runS (As := [.int (nI (sC S k))]) (rest := [.int (nI (h % 100))]) ⟨hx, hb, hml, hown, hts⟩ (c0_routerOf l (sC S k) (by omega)) (va_cwS 1 hts gX0_keepIfDue_X0_routerOf rfl rfl rfl (by decide +kernel) ⟨Nat.le_of_ble_eq_true rfl, Nat.le_of_ble_eq_true rfl⟩) preEq rfl rfl hl.1 rfl (lv_room (Nat.le_of_ble_eq_true rfl)) dX0_keepIfDue_28 ⟨Nat.zero_le _, Nat.zero_le _⟩) ?_
      refine W.eq (g2 := F0 m 31 ls [.int (nI ((sC S k) % 100)), .int (nI (h % 100))]) rfl ?_
      refine xx_ne (tgt := 54) hx hb dX0_keepIfDue_31 (by decide) (by omega) (by omega) (fun h3 => ?_) (fun h3 => ?_)
      · skip
        exact W.vret hx hb hr (fun t ht hW => ⟨rfl, by rw [ht, show pKeep S k h = _ from if_neg (by rw [h1, h2, decide_eq_false h3]; decide)]; exact hP, hS.F ht⟩) hS.2.2 dX0_keepIfDue_54
      · skip
        refine lv_aload_n hx hb dX0_keepIfDue_34 rfl (lv_at hl 1 rfl) ?_
        refine va_get (D := D) (ci := 0) (v := .ref (ad 3)) (C := RX0) (T := TX0) (N := 10) hx hb hts hin0 hown hK hP 0 rfl rfl 6 (by decide) (hts (.fieldLink RX0 29 "ClaimBench" "keptClaims" "[I") (by decide +kernel)) (fun _ h9 => h9) rfl dX0_keepIfDue_35 ?_
        refine lv_iload_n hx hb dX0_keepIfDue_38 rfl (lv_at hl 2 rfl) ?_
        refine lv_iload_n hx hb dX0_keepIfDue_39 rfl (lv_at hl 3 rfl) ?_
        refine xx_ast hx hb hK hP (dB hd ck _ _) hS 3 2 rfl rfl (j := k) (by omega) (by decide) (fun c_ => nI (sC (uC S (upN (sC S) k h)) c_)) (st_n (sC S) k h) dX0_keepIfDue_40 (fun H locs hP hS => ?_)
        have hP : va_P D vwCl (wB ad ck (uC S (upN (sC S) k h)) a) H := hP
        refine lv_aload_n hx hb dX0_keepIfDue_41 rfl (lv_at hl 1 rfl) ?_
        refine va_get (D := D) (ci := 0) (v := .ref (ad 4)) (C := RX0) (T := TX0) (N := 10) hx hb hts hin0 hown hK hP 0 rfl rfl 7 (by decide) (hts (.fieldLink RX0 32 "ClaimBench" "keptUntil" "[I") (by decide +kernel)) (fun _ h9 => h9) rfl dX0_keepIfDue_42 ?_
        refine lv_iload_n hx hb dX0_keepIfDue_45 rfl (lv_at hl 2 rfl) ?_
        refine lv_aload_n hx hb dX0_keepIfDue_46 rfl (lv_at hl 1 rfl) ?_
        refine va_get (D := D) (ci := 0) (v := .int (nI (sT (uC S (upN (sC S) k h))))) (C := RX0) (T := TX0) (N := 10) hx hb hts hin0 hown hK hP 0 rfl rfl 0 (by decide) (hts (.fieldLink RX0 7 "ClaimBench" "time" "I") (by decide +kernel)) (fun _ h9 => h9) rfl dX0_keepIfDue_47 ?_
        refine lv_bipush (v := nI 60) hx hb dX0_keepIfDue_50 (by decide) ?_
        refine xx_add hx hb dX0_keepIfDue_52 ?_
        refine xx_ast hx hb hK hP (dB hd ck _ _) hS 4 3 rfl rfl (j := k) (by omega) (by decide) (fun c_ => nI (sU (uU (uC S (upN (sC S) k h)) (upN (sU S) k (sT S + 60))) c_)) (st_n (sU S) k (sT S + 60)) dX0_keepIfDue_53 (fun H locs hP hS => ?_)
        have hP : va_P D vwCl (wB ad ck (uU (uC S (upN (sC S) k h)) (upN (sU S) k (sT S + 60))) a) H := hP
        exact W.vret hx hb hr (fun t ht hW => ⟨rfl, by rw [ht, show pKeep S k h = _ from if_pos (by rw [h1, h2, decide_eq_true h3]; rfl)]; exact hP, hS.F ht⟩) hS.2.2 dX0_keepIfDue_54
set_option maxHeartbeats 4000000 in
set_option maxRecDepth 100000 in
theorem c1_say (l : Launch) (D : va_G) (ad : Nat → Nat) (hd : apt 9 ad) (ck : Nat → ClassId) (S : AS) (a : Nat) (hi : iv S) (r z : Nat) (hr10 : r < 10) (hz16 : z < 16) (hn : sN S < 1023) : Met l yX1_say wsX1_say ({ frames := 1, cells := 0, slots := 0, locals := 22 }) (PW D (wM ad ck S a) (tyM ck) [.ref (ad 0), .int (nI (r)), .int (nI (z))]) (QcM none (fun H => va_P D vwCl (wM ad ck (pSay S (pO S (16 * r + z))) (a + 1)) H) (aM ad)) 0 0 (aM ad) := by
  refine Met.ofW (cc := cX1_say) (maxL := 3) (ret := none) (by decide) rfl ?_
  intro p e s m args below meth c s₁ B hml hv
  obtain ⟨rfl, hP, hK⟩ := hv
  have hx := B.exec
  have hb := B.bytes
  have hr := B.returns
  have hts := atoms_spec (ws := wsX1_say) B.pre
  have hown : s.vm.findClass RX1 = some m.cls := findClass_of_methodNamed B.named
  have hlocks := B.notSynchronized
  have hin0 : ∀ w ∈ wsX10, w ∈ wsX1_say := by decide +kernel
  have hl := lv_entry ([.ref (ad 0), .int (nI (r)), .int (nI (z))]) (n := 3) (Nat.le_of_ble_eq_true rfl)
  rw [lg_entry_eq]
  generalize (lg_sl ([.ref (ad 0), .int (nI (r)), .int (nI (z))]) ++ List.replicate (3 - (lg_sl ([.ref (ad 0), .int (nI (r)), .int (nI (z))])).length) Slot.unset).toArray = ls at hl ⊢
  have hl : lv_has ls 3 [(0, .ref (ad 0)), (1, .int (nI (r))), (2, .int (nI (z)))] := hl
  have hS : va_S (aM ad) s.heap s.heap [] := va_S.rf
  refine lv_aload_n hx hb dX1_say_0 rfl (lv_at hl 0 rfl) ?_
  refine va_get (D := D) (ci := 1) (v := .int (nI (sN S))) (C := RX1) (T := TX1) (N := 11) hx hb hts hin0 hown hK hP 0 rfl rfl 10 (by decide) (hts (.fieldLink RX1 62 "ClaimBenchModel" "many" "I") (by decide +kernel)) (fun _ h9 => h9) rfl dX1_say_1 ?_
  refine lv_sipush (v := nI 1024) hx hb dX1_say_4 (by decide) ?_
  refine xx_ne (tgt := 11) hx hb dX1_say_7 (by decide) (by omega) (by omega) (fun h1 => ?_) (fun h1 => ?_)
  · skip
    refine lv_aload_n hx hb dX1_say_11 rfl (lv_at hl 0 rfl) ?_
    refine va_get (D := D) (ci := 1) (v := .ref (ad 8)) (C := RX1) (T := TX1) (N := 11) hx hb hts hin0 hown hK hP 0 rfl rfl 9 (by decide) (hts (.fieldLink RX1 32 "ClaimBenchModel" "row" "[I") (by decide +kernel)) (fun _ h9 => h9) rfl dX1_say_12 ?_
    refine lv_aload_n hx hb dX1_say_15 rfl (lv_at hl 0 rfl) ?_
    refine va_get (D := D) (ci := 1) (v := .int (nI (sN S))) (C := RX1) (T := TX1) (N := 11) hx hb hts hin0 hown hK hP 0 rfl rfl 10 (by decide) (hts (.fieldLink RX1 62 "ClaimBenchModel" "many" "I") (by decide +kernel)) (fun _ h9 => h9) rfl dX1_say_16 ?_
    refine lv_aload_n hx hb dX1_say_19 rfl (lv_at hl 0 rfl) ?_
    refine lv_iload_n hx hb dX1_say_20 rfl (lv_at hl 1 rfl) ?_
    refine lv_iload_n hx hb dX1_say_21 rfl (lv_at hl 2 rfl) ?_
    refine W.callR (W.runV (As := [.int (nI (r)), .int (nI (z))]) (rest := [.int (nI (sN S)), .ref (ad 8)]) ⟨hx, hb, hml, hown, hts⟩ (c1_own l D ad ck S a hi r z (by omega) (by omega)) (cwV 2 hts gX1_say_X1_own rfl rfl rfl (by decide +kernel) ⟨Nat.le_of_ble_eq_true rfl, Nat.le_of_ble_eq_true rfl⟩) (PW_pre hK hP (ci := 1) rfl rfl) rfl rfl hl.1 rfl (lv_room (Nat.le_of_ble_eq_true rfl)) dX1_say_22 ⟨Nat.zero_le _, Nat.zero_le _⟩) ?_
    refine W.eq (g2 := F0 m 25 ls [.int (nI (pO S (16 * r + z))), .int (nI (sN S)), .ref (ad 8)]) rfl ?_
    refine xx_ast hx hb hK hP (dM hd ck _ _) hS 8 7 rfl rfl (j := sN S) (by omega) (by decide) (fun c_ => nI (sR (uR S (upN (sR S) (sN S) (pO S (16 * r + z)))) c_)) (st_n (sR S) (sN S) (pO S (16 * r + z))) dX1_say_25 (fun H locs hP hS => ?_)
    have hP : va_P D vwCl (wM ad ck (uR S (upN (sR S) (sN S) (pO S (16 * r + z)))) a) H := hP
    refine lv_aload_n hx hb dX1_say_26 rfl (lv_at hl 0 rfl) ?_
    refine lv_dup hx hb dX1_say_27 rfl ?_
    refine va_get (D := D) (ci := 1) (v := .int (nI (sN (uR S (upN (sR S) (sN S) (pO S (16 * r + z))))))) (C := RX1) (T := TX1) (N := 11) hx hb hts hin0 hown hK hP 0 rfl rfl 10 (by decide) (hts (.fieldLink RX1 62 "ClaimBenchModel" "many" "I") (by decide +kernel)) (fun _ h9 => h9) rfl dX1_say_28 ?_
    refine lv_iconst (v := nI 1) hx hb dX1_say_31 (by decide) ?_
    refine xx_add hx hb dX1_say_32 ?_
    refine va_put (D := D) (ci := 1) (v := .int (nI ((sN (uR S (upN (sR S) (sN S) (pO S (16 * r + z))))) + 1))) (ty := .int) (C := RX1) (T := TX1) (N := 11) hx hb hts hin0 tyX1 tyX1_ok nmX1 hown hK hP (dM hd ck _ _) hS 0 rfl rfl 10 (by decide) (hts (.fieldLink RX1 62 "ClaimBenchModel" "many" "I") (by decide +kernel)) (fun _ h9 => h9) rfl (by decide +kernel) rfl rfl (Nat.le_of_ble_eq_true rfl) dX1_say_33 (fun H locs hP _ hS => ?_)
    have hP : va_P D vwCl (wM ad ck (pSay S (pO S (16 * r + z))) a) H := hP
    refine lv_aload_n hx hb dX1_say_36 rfl (lv_at hl 0 rfl) ?_
    refine lv_dup hx hb dX1_say_37 rfl ?_
    refine va_get (D := D) (ci := 1) (v := .int (nI (a))) (C := RX1) (T := TX1) (N := 11) hx hb hts hin0 hown hK hP 0 rfl rfl 1 (by decide) (hts (.fieldLink RX1 65 "ClaimBenchModel" "all" "I") (by decide +kernel)) (fun _ h9 => h9) rfl dX1_say_38 ?_
    refine lv_iconst (v := nI 1) hx hb dX1_say_41 (by decide) ?_
    refine xx_add hx hb dX1_say_42 ?_
    refine va_put (D := D) (ci := 1) (v := .int (nI (a + 1))) (ty := .int) (C := RX1) (T := TX1) (N := 11) hx hb hts hin0 tyX1 tyX1_ok nmX1 hown hK hP (dM hd ck _ _) hS 0 rfl rfl 1 (by decide) (hts (.fieldLink RX1 65 "ClaimBenchModel" "all" "I") (by decide +kernel)) (fun _ h9 => h9) rfl (by decide +kernel) rfl rfl (Nat.le_of_ble_eq_true rfl) dX1_say_43 (fun H locs hP _ hS => ?_)
    have hP : va_P D vwCl (wM ad ck (pSay S (pO S (16 * r + z))) (a + 1)) H := hP
    exact W.vret hx hb hr (fun t ht hW => ⟨rfl, by rw [ht]; exact hP, hS.F ht⟩) hS.2.2 dX1_say_46
  · skip
    exact absurd h1 (by omega)
end
section
-- ===== the row's bound: each claim weighs 2 to the number of the better ones; what is said weighs less than what was heard =====
def sw (g : Nat → Nat) : Nat → Nat
  | 0 => 0
  | n + 1 => sw g n + g n
theorem sw_congr {g g' : Nat → Nat} : ∀ n, (∀ i, i < n → g i = g' i) → sw g n = sw g' n
  | 0, _ => rfl
  | n + 1, h => by rw [sw, sw, sw_congr n (fun i hi => h i (by omega)), h n (by omega)]
theorem sw_le {g : Nat → Nat} {m : Nat} : ∀ n, m ≤ n → sw g m ≤ sw g n
  | 0, h => by rw [show m = 0 by omega]; exact Nat.le_refl _
  | n + 1, h => by
    by_cases e : m = n + 1
    · rw [e]; exact Nat.le_refl _
    · have := sw_le (g := g) n (show m ≤ n by omega)
      rw [sw]; omega
theorem sw_gr {g : Nat → Nat} (hg : ∀ i, 1 ≤ g i) {m : Nat} : ∀ n, m ≤ n → sw g m + (n - m) ≤ sw g n
  | 0, h => by rw [show m = 0 by omega]; exact Nat.le_refl _
  | n + 1, h => by
    by_cases e : m = n + 1
    · rw [e]; simp
    · have := sw_gr hg (m := m) n (by omega)
      have := hg n
      rw [sw]; omega
theorem sw_one {g : Nat → Nat} (hg : ∀ i, g i ≤ 1) : ∀ n, sw g n ≤ n
  | 0 => Nat.le_refl _
  | n + 1 => by
    have := sw_one hg n
    have := hg n
    rw [sw]; omega
theorem sw_ge {g : Nat → Nat} {q : Nat} : ∀ n, q < n → g q ≤ sw g n
  | 0, h => by omega
  | n + 1, h => by
    rw [sw]
    by_cases e : q = n
    · rw [e]; omega
    · have := sw_ge (g := g) n (show q < n by omega)
      omega
theorem sw_at {f f' : Nat → Nat} {q0 v : Nat} : ∀ n, q0 < n → (∀ q, q < n → q ≠ q0 → f' q = f q) → f' q0 = f q0 + v → sw f' n = sw f n + v
  | 0, h, _, _ => by omega
  | n + 1, h, h1, h2 => by
    rw [sw, sw]
    by_cases e : q0 = n
    · rw [sw_congr (g := f') (g' := f) n (fun i hi => h1 i (by omega) (by omega)), ← e, h2]
      omega
    · rw [sw_at n (by omega) (fun q hq hn => h1 q (by omega) hn) h2, h1 n (by omega) (fun q => e q.symm)]
      omega
def kx (X : Nat) : Nat := (X / 100) * 100 + (99 - X % 100)
theorem pB_kx (a b : Nat) : pB a b = decide (kx a < kx b) := by
  by_cases h : kx a < kx b
  · rw [decide_eq_true h]
    unfold kx at h
    exact pB_t.mpr (by omega)
  · rw [decide_eq_false h]
    unfold kx at h
    exact pB_f.mpr (by omega)
def cn (κ : Nat → Nat) (K : Nat) : Nat := sw (fun q => if κ q < K then 1 else 0) 10
theorem cn_bound (κ : Nat → Nat) (hinj : ∀ i j, i < 10 → j < 10 → κ i = κ j → i = j) : ∀ K, sw (fun q => if κ q < K then 2 ^ (cn κ (κ q)) else 0) 10 + 1 ≤ 2 ^ (cn κ K)
  | 0 => by
    rw [sw_congr (g' := fun _ => 0) 10 (fun i _ => by simp)]
    exact Nat.one_le_two_pow
  | K + 1 => by
    have ih := cn_bound κ hinj K
    by_cases h : ∃ q0, q0 < 10 ∧ κ q0 = K
    · obtain ⟨q0, hq, e⟩ := h
      have ne : ∀ q, q < 10 → q ≠ q0 → ((κ q < K + 1) ↔ (κ q < K)) := fun q h1 h2 => by
        have : κ q ≠ K := fun e2 => h2 (hinj q q0 h1 hq (by rw [e2, e]))
        omega
      have e1 : sw (fun q => if κ q < K + 1 then 2 ^ (cn κ (κ q)) else 0) 10 = sw (fun q => if κ q < K then 2 ^ (cn κ (κ q)) else 0) 10 + 2 ^ (cn κ K) := by
        refine sw_at 10 hq (fun q h1 h2 => ?_) ?_
        · simp only [ne q h1 h2]
        · rw [e]; simp
      have e2 : cn κ (K + 1) = cn κ K + 1 := by
        unfold cn
        refine sw_at 10 hq (fun q h1 h2 => ?_) ?_
        · simp only [ne q h1 h2]
        · rw [e]; simp
      rw [e1, e2, Nat.pow_succ]
      omega
    · have ne : ∀ q, q < 10 → ((κ q < K + 1) ↔ (κ q < K)) := fun q h1 => by
        have : κ q ≠ K := fun e2 => h ⟨q, h1, e2⟩
        omega
      have e1 : sw (fun q => if κ q < K + 1 then 2 ^ (cn κ (κ q)) else 0) 10 = sw (fun q => if κ q < K then 2 ^ (cn κ (κ q)) else 0) 10 := sw_congr 10 (fun q h1 => by simp only [ne q h1])
      have e2 : cn κ (K + 1) = cn κ K := sw_congr 10 (fun q h1 => by simp only [ne q h1])
      rw [e1, e2]
      exact ih
def wt (o : Nat → Nat) (X : Nat) : Nat := 2 ^ cn (fun q => kx (o q)) (kx X)
theorem wt_pos (o : Nat → Nat) (X : Nat) : 1 ≤ wt o X := Nat.one_le_two_pow
theorem kx_inj {o : Nat → Nat} (ho : ∀ q, q < 10 → o q % 100 = q) : ∀ i j, i < 10 → j < 10 → kx (o i) = kx (o j) → i = j := by
  intro i j hi hj h
  have h1 := ho i hi
  have h2 := ho j hj
  unfold kx at h
  omega
theorem wt_less {o : Nat → Nat} (ho : ∀ q, q < 10 → o q % 100 = q) (h : Nat) : sw (fun q => if pB (o q) h then wt o (o q) else 0) 10 + 1 ≤ wt o h := by
  have := cn_bound (fun q => kx (o q)) (kx_inj ho) (kx h)
  rw [sw_congr (g' := fun q => if kx (o q) < kx h then 2 ^ (cn (fun q => kx (o q)) (kx (o q))) else 0) 10 (fun q _ => by simp only [pB_kx, decide_eq_true_eq]; rfl)]
  exact this
theorem wt_all {o : Nat → Nat} (ho : ∀ q, q < 10 → o q % 100 = q) : sw (fun q => wt o (o q)) 10 ≤ 1023 := by
  have h := cn_bound (fun q => kx (o q)) (kx_inj ho) (sw (fun q => kx (o q)) 10 + 1)
  rw [sw_congr (g' := fun q => wt o (o q)) 10 (fun q hq => by
    have : kx (o q) ≤ sw (fun q => kx (o q)) 10 := sw_ge (g := fun q => kx (o q)) 10 hq
    show (if kx (o q) < sw (fun q => kx (o q)) 10 + 1 then _ else _) = _
    rw [if_pos (by omega)]
    rfl)] at h
  have h2 : cn (fun q => kx (o q)) (sw (fun q => kx (o q)) 10 + 1) ≤ 10 := sw_one (fun i => by dsimp only; split <;> omega) 10
  have h3 := Nat.pow_le_pow_right (n := 2) (by decide) h2
  omega
/-- a row's claim weighs -/
def gw (S : AS) (z : Nat) (i : Nat) : Nat := wt (fun q => pO S (16 * q + z)) (sR S i)
def rowOk (S : AS) (z : Nat) : Prop := ∀ i, i < sN S → sR S i % 100 < 10 ∧ sR S i = pO S (16 * (sR S i % 100) + z)
def DI (S : AS) (z k : Nat) : Prop := iv S ∧ k ≤ sN S ∧ rowOk S z ∧ k + sw (gw S z) (sN S) ≤ 1023 + sw (gw S z) k
theorem gw_eq {S K : AS} (h1 : ∀ c, pO K c = pO S c) (h2 : sR K = sR S) (z : Nat) : gw K z = gw S z := by
  funext i
  unfold gw
  rw [h2, show (fun q => pO K (16 * q + z)) = (fun q => pO S (16 * q + z)) from funext (fun q => h1 _)]
theorem gw_say (S : AS) (X z : Nat) {m : Nat} (hm : m ≤ sN S) : sw (gw (pSay S X) z) m = sw (gw S z) m := by
  refine sw_congr m (fun i hi => ?_)
  show wt (fun q => pO S (16 * q + z)) (upN (sR S) (sN S) X i) = _
  unfold upN
  rw [if_neg (by omega)]
  rfl
theorem gw_sayN (S : AS) (X z : Nat) : sw (gw (pSay S X) z) (sN S + 1) = sw (gw S z) (sN S) + wt (fun q => pO S (16 * q + z)) X := by
  rw [sw, gw_say S X z (Nat.le_refl _)]
  congr 1
  show wt (fun q => pO S (16 * q + z)) (upN (sR S) (sN S) X (sN S)) = _
  unfold upN
  rw [if_pos rfl]
theorem rowOk_say {S : AS} {z q : Nat} (hz : z < 16) (hq : q < 10) (h : rowOk S z) : rowOk (pSay S (pO S (16 * q + z))) z := by
  intro i hi
  have hi : i < sN S + 1 := hi
  show upN (sR S) (sN S) (pO S (16 * q + z)) i % 100 < 10 ∧ upN (sR S) (sN S) (pO S (16 * q + z)) i = pO S (16 * (upN (sR S) (sN S) (pO S (16 * q + z)) i % 100) + z)
  unfold upN
  by_cases e : i = sN S
  · rw [if_pos e, pO_mod hq hz]; exact ⟨hq, rfl⟩
  · rw [if_neg e]; exact h i (by omega)
theorem rowOk_eq {S K : AS} {z : Nat} (h1 : ∀ c, pO K c = pO S c) (h2 : sR K = sR S) (h3 : sN K = sN S) (h : rowOk S z) : rowOk K z := by
  intro i hi
  rw [h2, h1]
  exact h i (by rw [← h3]; exact hi)
theorem iv_n0 {S : AS} (hi : iv S) : iv (uN S 0) := ⟨hi.1, hi.2.1, hi.2.2.1, hi.2.2.2.1, Nat.zero_le _, hi.2.2.2.2.2⟩
/-- the first claims -/
theorem first_inv {S : AS} (hi : iv S) (h0 : sN S = 0) {r z : Nat} (hz : z < 16) : ∀ q, q ≤ 10 → iv (pFirst S r z q) ∧ (∀ c, pO (pFirst S r z q) c = pO S c) ∧ sN (pFirst S r z q) ≤ q ∧ rowOk (pFirst S r z q) z ∧ sw (gw (pFirst S r z q) z) (sN (pFirst S r z q)) ≤ sw (fun q => wt (fun q => pO S (16 * q + z)) (pO S (16 * q + z))) q
  | 0, _ => ⟨hi, fun _ => rfl, by show sN S ≤ 0; omega, fun i h => absurd (show i < sN S from h) (by omega), by show sw (gw S z) (sN S) ≤ 0; rw [h0]; exact Nat.le_refl _⟩
  | q + 1, hq => by
    obtain ⟨i1, i2, i3, i4, i5⟩ := first_inv hi h0 hz (r := r) q (by omega)
    show iv (pF1 (pFirst S r z q) r z q) ∧ _
    have hs : pFirst S r z (q + 1) = pF1 (pFirst S r z q) r z q := rfl
    rw [hs]
    generalize pFirst S r z q = K at i1 i2 i3 i4 i5 ⊢
    unfold pF1
    split
    · refine ⟨iv_say i1 (pO_le i1 (by omega)) (by omega), i2, by show sN K + 1 ≤ q + 1; omega, rowOk_say hz (by omega) i4, ?_⟩
      show sw (gw (pSay K (pO K (16 * q + z))) z) (sN K + 1) ≤ _
      rw [gw_sayN, sw, show (fun q => pO K (16 * q + z)) = (fun q => pO S (16 * q + z)) from funext (fun q => i2 _), i2]
      omega
    · refine ⟨i1, i2, by omega, i4, ?_⟩
      rw [sw]; omega
theorem first_DI {S : AS} (hi : iv S) (h0 : sN S = 0) {r z : Nat} (hz : z < 16) : DI (pFirst S r z 10) z 0 := by
  obtain ⟨i1, i2, i3, i4, i5⟩ := first_inv hi h0 hz (r := r) 10 (Nat.le_refl _)
  have h := wt_all (o := fun q => pO S (16 * q + z)) (fun q hq => pO_mod hq hz)
  exact ⟨i1, Nat.zero_le _, i4, by show 0 + _ ≤ 1023 + 0; omega⟩
/-- while a claim of the row is heard -/
def HI (S : AS) (z k q : Nat) : Prop := iv (pHear S z (sR S k) q) ∧ (∀ c, pO (pHear S z (sR S k) q) c = pO S c) ∧ k < sN (pHear S z (sR S k) q) ∧ rowOk (pHear S z (sR S k) q) z ∧ sR (pHear S z (sR S k) q) k = sR S k ∧
  (k + 1) + sw (gw (pHear S z (sR S k) q) z) (sN (pHear S z (sR S k) q)) + sw (fun q => if pB (pO S (16 * q + z)) (sR S k) then wt (fun q => pO S (16 * q + z)) (pO S (16 * q + z)) else 0) 10 ≤ 1023 + sw (gw (pHear S z (sR S k) q) z) (k + 1) + sw (fun q => if pB (pO S (16 * q + z)) (sR S k) then wt (fun q => pO S (16 * q + z)) (pO S (16 * q + z)) else 0) q
theorem HI_n {S : AS} {z k q : Nat} (h : HI S z k q) (hq : q < 10) (hb : pB (pO S (16 * q + z)) (sR S k) = true) : sN (pHear S z (sR S k) q) < 1023 := by
  obtain ⟨i1, i2, i3, i4, i5, i6⟩ := h
  generalize pHear S z (sR S k) q = K at i1 i2 i3 i4 i5 i6 ⊢
  have h1 := sw_gr (g := gw K z) (fun i => wt_pos _ _) (m := k + 1) (sN K) i3
  have h2 := sw_le (g := fun q => if pB (pO S (16 * q + z)) (sR S k) then wt (fun q => pO S (16 * q + z)) (pO S (16 * q + z)) else 0) (m := q + 1) 10 hq
  rw [sw, hb, if_pos rfl] at h2
  have h3 := wt_pos (fun q => pO S (16 * q + z)) (pO S (16 * q + z))
  omega
theorem hear_inv {S : AS} {z k : Nat} (hz : z < 16) (hD : DI S z k) (hk : k < sN S) : ∀ q, q ≤ 10 → HI S z k q
  | 0, _ => by
    obtain ⟨d1, d2, d3, d4⟩ := hD
    refine ⟨d1, fun _ => rfl, hk, d3, rfl, ?_⟩
    have h := wt_less (o := fun q => pO S (16 * q + z)) (fun q hq => pO_mod hq hz) (sR S k)
    show (k + 1) + sw (gw S z) (sN S) + _ ≤ 1023 + sw (gw S z) (k + 1) + 0
    rw [show sw (gw S z) (k + 1) = sw (gw S z) k + wt (fun q => pO S (16 * q + z)) (sR S k) from rfl]
    omega
  | q + 1, hq => by
    have hI := hear_inv hz hD hk q (by omega)
    have hn := HI_n hI (by omega)
    obtain ⟨i1, i2, i3, i4, i5, i6⟩ := hI
    have hr1 : sR S k % 100 < 10 := (hD.2.2.1 k hk).1
    have hr2 : sR S k ≤ 1999909 := hD.1.2.2.2.2.2 k
    unfold HI
    have hs : pHear S z (sR S k) (q + 1) = pH1 (pHear S z (sR S k) q) z (sR S k) q := rfl
    rw [hs]
    generalize pHear S z (sR S k) q = K at i1 i2 i3 i4 i5 i6 hn ⊢
    have hw : ∀ v, sw (fun q => if pB (pO S (16 * q + z)) (sR S k) then wt (fun q => pO S (16 * q + z)) (pO S (16 * q + z)) else 0) (q + 1) = v → sw (fun q => if pB (pO S (16 * q + z)) (sR S k) then wt (fun q => pO S (16 * q + z)) (pO S (16 * q + z)) else 0) q ≤ v := fun v hv => by rw [← hv, sw]; omega
    unfold pH1
    split
    · have j1 := iv_keep i1 (k := 16 * q + z) hr1 hr2
      have j2 : ∀ c, pO (pKeep K (16 * q + z) (sR S k)) c = pO S c := fun c => (pO_keep _ _ _ _).trans (i2 c)
      have j3 := sN_keep K (16 * q + z) (sR S k)
      have j4 := sR_keep K (16 * q + z) (sR S k)
      have j5 : rowOk (pKeep K (16 * q + z) (sR S k)) z := rowOk_eq (pO_keep _ _ _) j4 j3 i4
      have j6 := gw_eq (pO_keep K (16 * q + z) (sR S k)) j4 z
      rw [← j3] at i3 hn
      rw [← j4] at i5
      rw [← j6, ← j3] at i6
      generalize pKeep K (16 * q + z) (sR S k) = L at j1 j2 j5 i3 hn i5 i6 ⊢
      unfold pH2
      split
      · rename_i _ hc
        have hb : pB (pO S (16 * q + z)) (sR S k) = true := by
          have := ((Bool.and_eq_true _ _).mp hc).2
          rw [j2] at this
          exact this
        have hlt := hn hb
        refine ⟨iv_say j1 (pO_le j1 (by omega)) hlt, j2, by show k < sN L + 1; omega, rowOk_say hz (by omega) j5, ?_, ?_⟩
        · show upN (sR L) (sN L) _ k = _
          unfold upN
          rw [if_neg (by omega)]
          exact i5
        · show (k + 1) + sw (gw (pSay L (pO L (16 * q + z))) z) (sN L + 1) + _ ≤ 1023 + sw (gw (pSay L (pO L (16 * q + z))) z) (k + 1) + _
          rw [gw_sayN, gw_say L _ z (show k + 1 ≤ sN L from i3), show (fun q => pO L (16 * q + z)) = (fun q => pO S (16 * q + z)) from funext (fun q => j2 _), j2, sw.eq_def _ (q + 1)]
          dsimp only
          rw [hb, if_pos rfl]
          omega
      · refine ⟨j1, j2, i3, j5, i5, ?_⟩
        have := hw _ rfl
        omega
    · refine ⟨i1, i2, i3, i4, i5, ?_⟩
      have := hw _ rfl
      omega
theorem hear_DI {S : AS} {z k : Nat} (hz : z < 16) (hD : DI S z k) (hk : k < sN S) : DI (pHear S z (sR S k) 10) z (k + 1) := by
  obtain ⟨i1, i2, i3, i4, i5, i6⟩ := hear_inv hz hD hk 10 (Nat.le_refl _)
  exact ⟨i1, i3, i4, by omega⟩
theorem run_DI {z : Nat} (hz : z < 16) : ∀ (f k : Nat) (S : AS), DI S z k → ∃ k', DI (pRun z f k S) z k'
  | 0, k, S, h => ⟨k, h⟩
  | f + 1, k, S, h => by
    rw [pRun]
    split
    · exact run_DI hz f (k + 1) _ (hear_DI hz h (by assumption))
    · exact ⟨k, h⟩
theorem data_iv {S : AS} (hi : iv S) {r z : Nat} (hz : z < 16) : iv (pData S r z) := by
  obtain ⟨k', h⟩ := run_DI hz 1024 0 _ (first_DI (iv_n0 hi) rfl (r := r) hz)
  exact h.1
-- ===== the steps, by their cases =====
theorem f1_no1 {S : AS} {r z q : Nat} (h : q = r) : pF1 S r z q = S := if_neg (by rw [decide_eq_true h]; simp)
theorem f1_no2 {S : AS} {r z q : Nat} (h : pH S q = false) : pF1 S r z q = S := if_neg (by rw [h]; simp)
theorem f1_no3 {S : AS} {r z q : Nat} (h : pS S q z = false) : pF1 S r z q = S := if_neg (by rw [h]; simp)
theorem f1_go {S : AS} {r z q : Nat} (h1 : ¬ q = r) (h2 : pH S q = true) (h3 : pS S q z = true) : pF1 S r z q = pSay S (pO S (16 * q + z)) := if_pos (by rw [decide_eq_false h1, h2, h3]; rfl)
theorem h1_no1 {S : AS} {z h q : Nat} (e : q = h % 100) : pH1 S z h q = S := if_neg (by rw [decide_eq_true e]; simp)
theorem h1_no2 {S : AS} {z h q : Nat} (e : pH S q = false) : pH1 S z h q = S := if_neg (by rw [e]; simp)
theorem h1_go {S : AS} {z h q : Nat} (e1 : ¬ q = h % 100) (e2 : pH S q = true) : pH1 S z h q = pH2 (pKeep S (16 * q + z) h) z h q := if_pos (by rw [decide_eq_false e1, e2]; rfl)
theorem h2_no1 {S : AS} {z h q : Nat} (e : pS S q z = false) : pH2 S z h q = S := if_neg (by rw [e]; simp)
theorem h2_no2 {S : AS} {z h q : Nat} (e : pB (pO S (16 * q + z)) h = false) : pH2 S z h q = S := if_neg (by rw [e]; simp)
theorem h2_go {S : AS} {z h q : Nat} (e1 : pS S q z = true) (e2 : pB (pO S (16 * q + z)) h = true) : pH2 S z h q = pSay S (pO S (16 * q + z)) := if_pos (by rw [e1, e2]; rfl)
theorem pH_g {S : AS} {q : Nat} (h : sG S q = true) : pH S q = false := by unfold pH; rw [h]; rfl
theorem pH_d {S : AS} {q : Nat} (h : sD S q = true) : pH S q = false := by unfold pH; rw [h]; simp
theorem pH_t {S : AS} {q : Nat} (h1 : sG S q = false) (h2 : sD S q = false) : pH S q = true := by unfold pH; rw [h1, h2]; rfl
theorem pS_g {S : AS} {q z : Nat} (h : pS S q z = true) : sG S q = false := by
  unfold pS at h
  cases e : sG S q with
  | false => rfl
  | true => rw [e] at h; simp at h
end
section
def aData (S : AS) (x y : Int32) : Int32 := pr2 (fun r z => if sG S r then -1 else nI (sN (pData S r z))) (-1) x y
def pDt (S : AS) (x y : Int32) : AS := ps2 (fun r z => if sG S r then S else pData S r z) S x y
def nDt (S : AS) (a : Nat) (x y : Int32) : Nat := if inR 10 x && inR 16 y then (if sG S x.toNatClampNeg then a else a + sN (pData S x.toNatClampNeg y.toNatClampNeg)) else a
theorem dt_f {S : AS} {a : Nat} {x y : Int32} (h : (inR 10 x && inR 16 y) = false) : aData S x y = -1 ∧ pDt S x y = S ∧ nDt S a x y = a := ⟨pr2_f h, ps2_f h, by unfold nDt; rw [h]; rfl⟩
theorem dt_g {S : AS} {a : Nat} {r z : Nat} (hr : r < 10) (hz : z < 16) (h : sG S r = true) : aData S (nI r) (nI z) = -1 ∧ pDt S (nI r) (nI z) = S ∧ nDt S a (nI r) (nI z) = a := by
  refine ⟨?_, ?_, ?_⟩
  · unfold aData; rw [pr2_t hr hz, h]; rfl
  · unfold pDt; rw [ps2_t hr hz, h]; rfl
  · unfold nDt; rw [inR_n (by decide) hr, inR_n (by decide) hz, nI_clamp (by omega), h]; rfl
theorem dt_t {S : AS} {a : Nat} {r z : Nat} (hr : r < 10) (hz : z < 16) (h : sG S r = false) {S' : AS} (e : pData S r z = S') : aData S (nI r) (nI z) = nI (sN S') ∧ pDt S (nI r) (nI z) = S' ∧ nDt S a (nI r) (nI z) = a + sN S' := by
  subst e
  refine ⟨?_, ?_, ?_⟩
  · unfold aData; rw [pr2_t hr hz, h]; rfl
  · unfold pDt; rw [ps2_t hr hz, h]; rfl
  · unfold nDt; rw [inR_n (by decide) hr, inR_n (by decide) hz, nI_clamp (by omega), nI_clamp (by omega), h]; rfl
set_option maxHeartbeats 4000000 in
set_option maxRecDepth 100000 in
theorem c1_hear (l : Launch) (D : va_G) (ad : Nat → Nat) (hd : apt 9 ad) (ck : Nat → ClassId) (S : AS) (a : Nat) (hi : iv S) (r z h : Nat) (hr10 : r < 10) (hz16 : z < 16) (hh : h ≤ 1999909) (hh10 : h % 100 < 10) (hn : pB (pO S (16 * r + z)) h = true → sN S < 1023) : Met l yX1_hear wsX1_hear ({ frames := 3, cells := 0, slots := 0, locals := 68 }) (PW D (wM ad ck S (a + sN S)) (tyM ck) [.ref (ad 0), .int (nI (r)), .int (nI (z)), .int (nI (h))]) (QcM none (fun H => va_P D vwCl (wM ad ck (pH2 (pKeep S (16 * r + z) h) z h r) (a + sN (pH2 (pKeep S (16 * r + z) h) z h r))) H) (aM ad)) 0 0 (aM ad) := by
  refine Met.ofW (cc := cX1_hear) (maxL := 5) (ret := none) (by decide) rfl ?_
  intro p e s m args below meth c s₁ B hml hv
  obtain ⟨rfl, hP, hK⟩ := hv
  have hx := B.exec
  have hb := B.bytes
  have hr := B.returns
  have hts := atoms_spec (ws := wsX1_hear) B.pre
  have hown : s.vm.findClass RX1 = some m.cls := findClass_of_methodNamed B.named
  have hlocks := B.notSynchronized
  have hin0 : ∀ w ∈ wsX10, w ∈ wsX1_hear := by decide +kernel
  have hl := lv_entry ([.ref (ad 0), .int (nI (r)), .int (nI (z)), .int (nI (h))]) (n := 5) (Nat.le_of_ble_eq_true rfl)
  rw [lg_entry_eq]
  generalize (lg_sl ([.ref (ad 0), .int (nI (r)), .int (nI (z)), .int (nI (h))]) ++ List.replicate (5 - (lg_sl ([.ref (ad 0), .int (nI (r)), .int (nI (z)), .int (nI (h))])).length) Slot.unset).toArray = ls at hl ⊢
  have hl : lv_has ls 5 [(0, .ref (ad 0)), (1, .int (nI (r))), (2, .int (nI (z))), (3, .int (nI (h)))] := hl
  have hS : va_S (aM ad) s.heap s.heap [] := va_S.rf
  have hT := hi.1
  have hC := hi.2.2.1 (16 * r + z)
  have hU := hi.2.2.2.1 (16 * r + z)
  have hiK := iv_keep (k := 16 * r + z) hi hh10 hh
  have hOK := pO_le hiK (k := 16 * r + z) (by omega)
  refine lv_aload_n hx hb dX1_hear_0 rfl (lv_at hl 0 rfl) ?_
  refine lv_iload_n hx hb dX1_hear_1 rfl (lv_at hl 1 rfl) ?_
  refine lv_iload_n hx hb dX1_hear_2 rfl (lv_at hl 2 rfl) ?_
  refine W.callR (W.runV (As := [.int (nI (r)), .int (nI (z))]) (rest := []) ⟨hx, hb, hml, hown, hts⟩ (c1_keeps l D ad ck S (a + sN S) hi r z (by omega) (by omega)) (cwV 2 hts gX1_hear_X1_keeps rfl rfl rfl (by decide +kernel) ⟨Nat.le_of_ble_eq_true rfl, Nat.le_of_ble_eq_true rfl⟩) (PW_pre hK hP (ci := 1) rfl rfl) rfl rfl hl.1 rfl (lv_room (Nat.le_of_ble_eq_true rfl)) dX1_hear_3 ⟨Nat.zero_le _, Nat.zero_le _⟩) ?_
  refine W.eq (g2 := F0 m 6 ls [.int (kR S (16 * r + z))]) rfl ?_
  refine lv_istore (lv' := [(4, .int (kR S (16 * r + z))), (0, .ref (ad 0)), (1, .int (nI (r))), (2, .int (nI (z))), (3, .int (nI (h)))]) hx hb dX1_hear_6 hl (by decide) rfl (fun ls hl => ?_)
  refine lv_iload hx hb dX1_hear_8 (lv_at hl 0 rfl) ?_
  refine lv_iconst (v := -1) hx hb dX1_hear_10 (by decide) ?_
  refine lv_icmp_eq (tgt := 35) hx hb dX1_hear_11 (by decide) (fun h1 => ?_) (fun h1 => ?_)
  · skip
    refine lv_aload_n hx hb dX1_hear_35 rfl (lv_at hl 1 rfl) ?_
    refine va_get (D := D) (ci := 1) (v := .ref (ad 6)) (C := RX1) (T := TX1) (N := 11) hx hb hts hin0 hown hK hP 0 rfl rfl 7 (by decide) (hts (.fieldLink RX1 26 "ClaimBenchModel" "keptClaim" "[I") (by decide +kernel)) (fun _ h9 => h9) rfl dX1_hear_36 ?_
    refine lv_bipush (v := nI 16) hx hb dX1_hear_39 (by decide) ?_
    refine lv_iload_n hx hb dX1_hear_41 rfl (lv_at hl 2 rfl) ?_
    refine xx_mul hx hb dX1_hear_42 ?_
    refine lv_iload_n hx hb dX1_hear_43 rfl (lv_at hl 3 rfl) ?_
    refine xx_add hx hb dX1_hear_44 ?_
    refine lv_iload_n hx hb dX1_hear_45 rfl (lv_at hl 4 rfl) ?_
    refine xx_ast hx hb hK hP (dM hd ck _ _) hS 6 5 rfl rfl (j := (16 * r) + z) (by omega) (by decide) (fun c_ => kM (uU (uC S (upN (sC S) (16 * r + z) h)) (upN (sU S) (16 * r + z) (sT S + 60))) c_) (st_km S (16 * r + z) h) dX1_hear_46 (fun H locs hP hS => ?_)
    have hP : va_P D vwCl ((wM ad ck S (a + sN S)).set 6 (ad 6, .inl (ck 6, 160, .inl (fun c_ => kM (uU (uC S (upN (sC S) (16 * r + z) h)) (upN (sU S) (16 * r + z) (sT S + 60))) c_)))) H := hP
    refine lv_aload_n hx hb dX1_hear_47 rfl (lv_at hl 1 rfl) ?_
    refine va_get (D := D) (ci := 1) (v := .ref (ad 7)) (C := RX1) (T := TX1) (N := 11) hx hb hts hin0 hown hK hP 0 rfl rfl 8 (by decide) (hts (.fieldLink RX1 29 "ClaimBenchModel" "keptTill" "[I") (by decide +kernel)) (fun _ h9 => h9) rfl dX1_hear_48 ?_
    refine lv_bipush (v := nI 16) hx hb dX1_hear_51 (by decide) ?_
    refine lv_iload_n hx hb dX1_hear_53 rfl (lv_at hl 2 rfl) ?_
    refine xx_mul hx hb dX1_hear_54 ?_
    refine lv_iload_n hx hb dX1_hear_55 rfl (lv_at hl 3 rfl) ?_
    refine xx_add hx hb dX1_hear_56 ?_
    refine lv_aload_n hx hb dX1_hear_57 rfl (lv_at hl 1 rfl) ?_
    refine va_get (D := D) (ci := 1) (v := .int (nI (sT S))) (C := RX1) (T := TX1) (N := 11) hx hb hts hin0 hown hK hP 0 rfl rfl 0 (by decide) (hts (.fieldLink RX1 39 "ClaimBenchModel" "time" "I") (by decide +kernel)) (fun _ h9 => h9) rfl dX1_hear_58 ?_
    refine lv_bipush (v := nI 60) hx hb dX1_hear_61 (by decide) ?_
    refine xx_add hx hb dX1_hear_63 ?_
    refine xx_ast hx hb hK hP ((dM hd ck S (a + sN S)).set (p := 6) rfl) hS 7 6 rfl rfl (j := (16 * r) + z) (by omega) (by decide) (fun c_ => nI (sU (uU (uC S (upN (sC S) (16 * r + z) h)) (upN (sU S) (16 * r + z) (sT S + 60))) c_)) (st_n (sU S) (16 * r + z) (sT S + 60)) dX1_hear_64 (fun H locs hP hS => ?_)
    have hP : va_P D vwCl (wM ad ck (uU (uC S (upN (sC S) (16 * r + z) h)) (upN (sU S) (16 * r + z) (sT S + 60))) (a + sN S)) H := hP
    have hP : va_P D vwCl (wM ad ck (pKeep S (16 * r + z) h) (a + sN (pKeep S (16 * r + z) h))) H := by rw [show pKeep S (16 * r + z) h = uU (uC S (upN (sC S) (16 * r + z) h)) (upN (sU S) (16 * r + z) (sT S + 60)) from if_pos (by rw [kR_m hi h1]; rfl)]; exact hP
    refine lv_aload_n hx hb dX1_hear_65 rfl (lv_at hl 1 rfl) ?_
    refine lv_iload_n hx hb dX1_hear_66 rfl (lv_at hl 2 rfl) ?_
    refine lv_iload_n hx hb dX1_hear_67 rfl (lv_at hl 3 rfl) ?_
    refine W.callR (W.runV (As := [.int (nI (r)), .int (nI (z))]) (rest := []) ⟨hx, hb, hml, hown, hts⟩ (c1_isSending l D ad ck (pKeep S (16 * r + z) h) (a + sN (pKeep S (16 * r + z) h)) hiK r z (by omega) (by omega)) (cwV 2 hts gX1_hear_X1_isSending rfl rfl rfl (by decide +kernel) ⟨Nat.le_of_ble_eq_true rfl, Nat.le_of_ble_eq_true rfl⟩) (PW_pre hK hP (ci := 1) rfl rfl) rfl rfl hl.1 rfl (lv_room (Nat.le_of_ble_eq_true rfl)) dX1_hear_68 ⟨Nat.zero_le _, Nat.zero_le _⟩) ?_
    refine W.eq (g2 := F0 m 71 ls [.int (bI (pS (pKeep S (16 * r + z) h) r z))]) rfl ?_
    refine xx_if0 (tgt := 93) hx hb dX1_hear_71 (by decide) (fun h2 => ?_) (fun h2 => ?_)
    · skip
      exact W.vret hx hb hr (fun t ht hW => ⟨rfl, by rw [ht, h2_no1 h2]; exact hP, hS.F ht⟩) hS.2.2 dX1_hear_93
    · skip
      refine lv_aload_n hx hb dX1_hear_74 rfl (lv_at hl 1 rfl) ?_
      refine lv_iload_n hx hb dX1_hear_75 rfl (lv_at hl 2 rfl) ?_
      refine lv_iload_n hx hb dX1_hear_76 rfl (lv_at hl 3 rfl) ?_
      refine W.callR (W.runV (As := [.int (nI (r)), .int (nI (z))]) (rest := []) ⟨hx, hb, hml, hown, hts⟩ (c1_own l D ad ck (pKeep S (16 * r + z) h) (a + sN (pKeep S (16 * r + z) h)) hiK r z (by omega) (by omega)) (cwV 2 hts gX1_hear_X1_own rfl rfl rfl (by decide +kernel) ⟨Nat.le_of_ble_eq_true rfl, Nat.le_of_ble_eq_true rfl⟩) (PW_pre hK hP (ci := 1) rfl rfl) rfl rfl hl.1 rfl (lv_room (Nat.le_of_ble_eq_true rfl)) dX1_hear_77 ⟨Nat.zero_le _, Nat.zero_le _⟩) ?_
      refine W.eq (g2 := F0 m 80 ls [.int (nI (pO (pKeep S (16 * r + z) h) (16 * r + z)))]) rfl ?_
      refine lv_iload_n hx hb dX1_hear_80 rfl (lv_at hl 4 rfl) ?_
      refine W.callR (W.runS (As := [.int (nI (pO (pKeep S (16 * r + z) h) (16 * r + z))), .int (nI (h))]) (rest := []) ⟨hx, hb, hml, hown, hts⟩ (c1_isBetter l (pO (pKeep S (16 * r + z) h) (16 * r + z)) h (by omega) (by omega)) (va_cwS 2 hts gX1_hear_X1_isBetter rfl rfl rfl (by decide +kernel) ⟨Nat.le_of_ble_eq_true rfl, Nat.le_of_ble_eq_true rfl⟩) preEq rfl rfl hl.1 rfl (lv_room (Nat.le_of_ble_eq_true rfl)) dX1_hear_81 ⟨Nat.zero_le _, Nat.zero_le _⟩) ?_
      refine W.eq (g2 := F0 m 84 ls [.int (bI (pB (pO (pKeep S (16 * r + z) h) (16 * r + z)) h))]) rfl ?_
      refine xx_if0 (tgt := 93) hx hb dX1_hear_84 (by decide) (fun h3 => ?_) (fun h3 => ?_)
      · skip
        exact W.vret hx hb hr (fun t ht hW => ⟨rfl, by rw [ht, h2_no2 h3]; exact hP, hS.F ht⟩) hS.2.2 dX1_hear_93
      · skip
        refine lv_aload_n hx hb dX1_hear_87 rfl (lv_at hl 1 rfl) ?_
        refine lv_iload_n hx hb dX1_hear_88 rfl (lv_at hl 2 rfl) ?_
        refine lv_iload_n hx hb dX1_hear_89 rfl (lv_at hl 3 rfl) ?_
        refine xx_callM (W.runV (As := [.int (nI (r)), .int (nI (z))]) (rest := []) ⟨hx, hb, hml, hown, hts⟩ (c1_say l D ad hd ck (pKeep S (16 * r + z) h) (a + sN (pKeep S (16 * r + z) h)) hiK r z (by omega) (by omega) (by rw [sN_keep]; exact hn (by rw [← pO_keep S (16 * r + z) h (16 * r + z)]; exact h3))) (cwV 2 hts gX1_hear_X1_say rfl rfl rfl (by decide +kernel) ⟨Nat.le_of_ble_eq_true rfl, Nat.le_of_ble_eq_true rfl⟩) (PW_pre hK hP (ci := 1) rfl rfl) rfl rfl hl.1 rfl (lv_room (Nat.le_of_ble_eq_true rfl)) dX1_hear_90 ⟨Nat.zero_le _, Nat.zero_le _⟩) hS (fun _ h => h) (fun H locs hP _ hS => ?_)
        have hP : va_P D vwCl (wM ad ck (pSay (pKeep S (16 * r + z) h) (pO (pKeep S (16 * r + z) h) (16 * r + z))) ((a + sN (pKeep S (16 * r + z) h)) + 1)) H := hP
        refine W.eq (g2 := F0 m 93 ls []) rfl ?_
        exact W.vret hx hb hr (fun t ht hW => ⟨rfl, by rw [ht, h2_go h2 h3]; exact hP, hS.F ht⟩) hS.2.2 dX1_hear_93
  · skip
    obtain ⟨hk1, hc⟩ := kR_n h1
    rw [hc] at hl
    refine lv_iload_n hx hb dX1_hear_14 rfl (lv_at hl 4 rfl) ?_
    refine lv_iload hx hb dX1_hear_15 (lv_at hl 0 rfl) ?_
    refine W.callR (W.runS (As := [.int (nI (h)), .int (nI (sC S (16 * r + z)))]) (rest := []) ⟨hx, hb, hml, hown, hts⟩ (c1_isBetter l h (sC S (16 * r + z)) (by omega) (by omega)) (va_cwS 2 hts gX1_hear_X1_isBetter rfl rfl rfl (by decide +kernel) ⟨Nat.le_of_ble_eq_true rfl, Nat.le_of_ble_eq_true rfl⟩) preEq rfl rfl hl.1 rfl (lv_room (Nat.le_of_ble_eq_true rfl)) dX1_hear_17 ⟨Nat.zero_le _, Nat.zero_le _⟩) ?_
    refine W.eq (g2 := F0 m 20 ls [.int (bI (pB h (sC S (16 * r + z))))]) rfl ?_
    refine xx_if1 (tgt := 35) hx hb dX1_hear_20 (by decide) (fun h4 => ?_) (fun h4 => ?_)
    · skip
      refine lv_aload_n hx hb dX1_hear_35 rfl (lv_at hl 1 rfl) ?_
      refine va_get (D := D) (ci := 1) (v := .ref (ad 6)) (C := RX1) (T := TX1) (N := 11) hx hb hts hin0 hown hK hP 0 rfl rfl 7 (by decide) (hts (.fieldLink RX1 26 "ClaimBenchModel" "keptClaim" "[I") (by decide +kernel)) (fun _ h9 => h9) rfl dX1_hear_36 ?_
      refine lv_bipush (v := nI 16) hx hb dX1_hear_39 (by decide) ?_
      refine lv_iload_n hx hb dX1_hear_41 rfl (lv_at hl 2 rfl) ?_
      refine xx_mul hx hb dX1_hear_42 ?_
      refine lv_iload_n hx hb dX1_hear_43 rfl (lv_at hl 3 rfl) ?_
      refine xx_add hx hb dX1_hear_44 ?_
      refine lv_iload_n hx hb dX1_hear_45 rfl (lv_at hl 4 rfl) ?_
      refine xx_ast hx hb hK hP (dM hd ck _ _) hS 6 5 rfl rfl (j := (16 * r) + z) (by omega) (by decide) (fun c_ => kM (uU (uC S (upN (sC S) (16 * r + z) h)) (upN (sU S) (16 * r + z) (sT S + 60))) c_) (st_km S (16 * r + z) h) dX1_hear_46 (fun H locs hP hS => ?_)
      have hP : va_P D vwCl ((wM ad ck S (a + sN S)).set 6 (ad 6, .inl (ck 6, 160, .inl (fun c_ => kM (uU (uC S (upN (sC S) (16 * r + z) h)) (upN (sU S) (16 * r + z) (sT S + 60))) c_)))) H := hP
      refine lv_aload_n hx hb dX1_hear_47 rfl (lv_at hl 1 rfl) ?_
      refine va_get (D := D) (ci := 1) (v := .ref (ad 7)) (C := RX1) (T := TX1) (N := 11) hx hb hts hin0 hown hK hP 0 rfl rfl 8 (by decide) (hts (.fieldLink RX1 29 "ClaimBenchModel" "keptTill" "[I") (by decide +kernel)) (fun _ h9 => h9) rfl dX1_hear_48 ?_
      refine lv_bipush (v := nI 16) hx hb dX1_hear_51 (by decide) ?_
      refine lv_iload_n hx hb dX1_hear_53 rfl (lv_at hl 2 rfl) ?_
      refine xx_mul hx hb dX1_hear_54 ?_
      refine lv_iload_n hx hb dX1_hear_55 rfl (lv_at hl 3 rfl) ?_
      refine xx_add hx hb dX1_hear_56 ?_
      refine lv_aload_n hx hb dX1_hear_57 rfl (lv_at hl 1 rfl) ?_
      refine va_get (D := D) (ci := 1) (v := .int (nI (sT S))) (C := RX1) (T := TX1) (N := 11) hx hb hts hin0 hown hK hP 0 rfl rfl 0 (by decide) (hts (.fieldLink RX1 39 "ClaimBenchModel" "time" "I") (by decide +kernel)) (fun _ h9 => h9) rfl dX1_hear_58 ?_
      refine lv_bipush (v := nI 60) hx hb dX1_hear_61 (by decide) ?_
      refine xx_add hx hb dX1_hear_63 ?_
      refine xx_ast hx hb hK hP ((dM hd ck S (a + sN S)).set (p := 6) rfl) hS 7 6 rfl rfl (j := (16 * r) + z) (by omega) (by decide) (fun c_ => nI (sU (uU (uC S (upN (sC S) (16 * r + z) h)) (upN (sU S) (16 * r + z) (sT S + 60))) c_)) (st_n (sU S) (16 * r + z) (sT S + 60)) dX1_hear_64 (fun H locs hP hS => ?_)
      have hP : va_P D vwCl (wM ad ck (uU (uC S (upN (sC S) (16 * r + z) h)) (upN (sU S) (16 * r + z) (sT S + 60))) (a + sN S)) H := hP
      have hP : va_P D vwCl (wM ad ck (pKeep S (16 * r + z) h) (a + sN (pKeep S (16 * r + z) h))) H := by rw [show pKeep S (16 * r + z) h = uU (uC S (upN (sC S) (16 * r + z) h)) (upN (sU S) (16 * r + z) (sT S + 60)) from if_pos (by rw [hk1, h4]; rfl)]; exact hP
      refine lv_aload_n hx hb dX1_hear_65 rfl (lv_at hl 1 rfl) ?_
      refine lv_iload_n hx hb dX1_hear_66 rfl (lv_at hl 2 rfl) ?_
      refine lv_iload_n hx hb dX1_hear_67 rfl (lv_at hl 3 rfl) ?_
      refine W.callR (W.runV (As := [.int (nI (r)), .int (nI (z))]) (rest := []) ⟨hx, hb, hml, hown, hts⟩ (c1_isSending l D ad ck (pKeep S (16 * r + z) h) (a + sN (pKeep S (16 * r + z) h)) hiK r z (by omega) (by omega)) (cwV 2 hts gX1_hear_X1_isSending rfl rfl rfl (by decide +kernel) ⟨Nat.le_of_ble_eq_true rfl, Nat.le_of_ble_eq_true rfl⟩) (PW_pre hK hP (ci := 1) rfl rfl) rfl rfl hl.1 rfl (lv_room (Nat.le_of_ble_eq_true rfl)) dX1_hear_68 ⟨Nat.zero_le _, Nat.zero_le _⟩) ?_
      refine W.eq (g2 := F0 m 71 ls [.int (bI (pS (pKeep S (16 * r + z) h) r z))]) rfl ?_
      refine xx_if0 (tgt := 93) hx hb dX1_hear_71 (by decide) (fun h5 => ?_) (fun h5 => ?_)
      · skip
        exact W.vret hx hb hr (fun t ht hW => ⟨rfl, by rw [ht, h2_no1 h5]; exact hP, hS.F ht⟩) hS.2.2 dX1_hear_93
      · skip
        refine lv_aload_n hx hb dX1_hear_74 rfl (lv_at hl 1 rfl) ?_
        refine lv_iload_n hx hb dX1_hear_75 rfl (lv_at hl 2 rfl) ?_
        refine lv_iload_n hx hb dX1_hear_76 rfl (lv_at hl 3 rfl) ?_
        refine W.callR (W.runV (As := [.int (nI (r)), .int (nI (z))]) (rest := []) ⟨hx, hb, hml, hown, hts⟩ (c1_own l D ad ck (pKeep S (16 * r + z) h) (a + sN (pKeep S (16 * r + z) h)) hiK r z (by omega) (by omega)) (cwV 2 hts gX1_hear_X1_own rfl rfl rfl (by decide +kernel) ⟨Nat.le_of_ble_eq_true rfl, Nat.le_of_ble_eq_true rfl⟩) (PW_pre hK hP (ci := 1) rfl rfl) rfl rfl hl.1 rfl (lv_room (Nat.le_of_ble_eq_true rfl)) dX1_hear_77 ⟨Nat.zero_le _, Nat.zero_le _⟩) ?_
        refine W.eq (g2 := F0 m 80 ls [.int (nI (pO (pKeep S (16 * r + z) h) (16 * r + z)))]) rfl ?_
        refine lv_iload_n hx hb dX1_hear_80 rfl (lv_at hl 4 rfl) ?_
        refine W.callR (W.runS (As := [.int (nI (pO (pKeep S (16 * r + z) h) (16 * r + z))), .int (nI (h))]) (rest := []) ⟨hx, hb, hml, hown, hts⟩ (c1_isBetter l (pO (pKeep S (16 * r + z) h) (16 * r + z)) h (by omega) (by omega)) (va_cwS 2 hts gX1_hear_X1_isBetter rfl rfl rfl (by decide +kernel) ⟨Nat.le_of_ble_eq_true rfl, Nat.le_of_ble_eq_true rfl⟩) preEq rfl rfl hl.1 rfl (lv_room (Nat.le_of_ble_eq_true rfl)) dX1_hear_81 ⟨Nat.zero_le _, Nat.zero_le _⟩) ?_
        refine W.eq (g2 := F0 m 84 ls [.int (bI (pB (pO (pKeep S (16 * r + z) h) (16 * r + z)) h))]) rfl ?_
        refine xx_if0 (tgt := 93) hx hb dX1_hear_84 (by decide) (fun h6 => ?_) (fun h6 => ?_)
        · skip
          exact W.vret hx hb hr (fun t ht hW => ⟨rfl, by rw [ht, h2_no2 h6]; exact hP, hS.F ht⟩) hS.2.2 dX1_hear_93
        · skip
          refine lv_aload_n hx hb dX1_hear_87 rfl (lv_at hl 1 rfl) ?_
          refine lv_iload_n hx hb dX1_hear_88 rfl (lv_at hl 2 rfl) ?_
          refine lv_iload_n hx hb dX1_hear_89 rfl (lv_at hl 3 rfl) ?_
          refine xx_callM (W.runV (As := [.int (nI (r)), .int (nI (z))]) (rest := []) ⟨hx, hb, hml, hown, hts⟩ (c1_say l D ad hd ck (pKeep S (16 * r + z) h) (a + sN (pKeep S (16 * r + z) h)) hiK r z (by omega) (by omega) (by rw [sN_keep]; exact hn (by rw [← pO_keep S (16 * r + z) h (16 * r + z)]; exact h6))) (cwV 2 hts gX1_hear_X1_say rfl rfl rfl (by decide +kernel) ⟨Nat.le_of_ble_eq_true rfl, Nat.le_of_ble_eq_true rfl⟩) (PW_pre hK hP (ci := 1) rfl rfl) rfl rfl hl.1 rfl (lv_room (Nat.le_of_ble_eq_true rfl)) dX1_hear_90 ⟨Nat.zero_le _, Nat.zero_le _⟩) hS (fun _ h => h) (fun H locs hP _ hS => ?_)
          have hP : va_P D vwCl (wM ad ck (pSay (pKeep S (16 * r + z) h) (pO (pKeep S (16 * r + z) h) (16 * r + z))) ((a + sN (pKeep S (16 * r + z) h)) + 1)) H := hP
          refine W.eq (g2 := F0 m 93 ls []) rfl ?_
          exact W.vret hx hb hr (fun t ht hW => ⟨rfl, by rw [ht, h2_go h5 h6]; exact hP, hS.F ht⟩) hS.2.2 dX1_hear_93
    · skip
      refine lv_iload hx hb dX1_hear_23 (lv_at hl 0 rfl) ?_
      refine lv_bipush (v := nI 100) hx hb dX1_hear_25 (by decide) ?_
      refine xx_rem hx hb dX1_hear_27 (by omega) (by decide) (by decide) ?_
      refine lv_iload_n hx hb dX1_hear_28 rfl (lv_at hl 4 rfl) ?_
      refine lv_bipush (v := nI 100) hx hb dX1_hear_29 (by decide) ?_
      refine xx_rem hx hb dX1_hear_31 (by omega) (by decide) (by decide) ?_
      refine xx_ne (tgt := 65) hx hb dX1_hear_32 (by decide) (by omega) (by omega) (fun h7 => ?_) (fun h7 => ?_)
      · skip
        have hP : va_P D vwCl (wM ad ck (pKeep S (16 * r + z) h) (a + sN (pKeep S (16 * r + z) h))) s.heap := by rw [show pKeep S (16 * r + z) h = S from if_neg (by rw [hk1, h4, decide_eq_false (fun q => h7 q.symm)]; decide)]; exact hP
        refine lv_aload_n hx hb dX1_hear_65 rfl (lv_at hl 1 rfl) ?_
        refine lv_iload_n hx hb dX1_hear_66 rfl (lv_at hl 2 rfl) ?_
        refine lv_iload_n hx hb dX1_hear_67 rfl (lv_at hl 3 rfl) ?_
        refine W.callR (W.runV (As := [.int (nI (r)), .int (nI (z))]) (rest := []) ⟨hx, hb, hml, hown, hts⟩ (c1_isSending l D ad ck (pKeep S (16 * r + z) h) (a + sN (pKeep S (16 * r + z) h)) hiK r z (by omega) (by omega)) (cwV 2 hts gX1_hear_X1_isSending rfl rfl rfl (by decide +kernel) ⟨Nat.le_of_ble_eq_true rfl, Nat.le_of_ble_eq_true rfl⟩) (PW_pre hK hP (ci := 1) rfl rfl) rfl rfl hl.1 rfl (lv_room (Nat.le_of_ble_eq_true rfl)) dX1_hear_68 ⟨Nat.zero_le _, Nat.zero_le _⟩) ?_
        refine W.eq (g2 := F0 m 71 ls [.int (bI (pS (pKeep S (16 * r + z) h) r z))]) rfl ?_
        refine xx_if0 (tgt := 93) hx hb dX1_hear_71 (by decide) (fun h8 => ?_) (fun h8 => ?_)
        · skip
          exact W.vret hx hb hr (fun t ht hW => ⟨rfl, by rw [ht, h2_no1 h8]; exact hP, hS.F ht⟩) hS.2.2 dX1_hear_93
        · skip
          refine lv_aload_n hx hb dX1_hear_74 rfl (lv_at hl 1 rfl) ?_
          refine lv_iload_n hx hb dX1_hear_75 rfl (lv_at hl 2 rfl) ?_
          refine lv_iload_n hx hb dX1_hear_76 rfl (lv_at hl 3 rfl) ?_
          refine W.callR (W.runV (As := [.int (nI (r)), .int (nI (z))]) (rest := []) ⟨hx, hb, hml, hown, hts⟩ (c1_own l D ad ck (pKeep S (16 * r + z) h) (a + sN (pKeep S (16 * r + z) h)) hiK r z (by omega) (by omega)) (cwV 2 hts gX1_hear_X1_own rfl rfl rfl (by decide +kernel) ⟨Nat.le_of_ble_eq_true rfl, Nat.le_of_ble_eq_true rfl⟩) (PW_pre hK hP (ci := 1) rfl rfl) rfl rfl hl.1 rfl (lv_room (Nat.le_of_ble_eq_true rfl)) dX1_hear_77 ⟨Nat.zero_le _, Nat.zero_le _⟩) ?_
          refine W.eq (g2 := F0 m 80 ls [.int (nI (pO (pKeep S (16 * r + z) h) (16 * r + z)))]) rfl ?_
          refine lv_iload_n hx hb dX1_hear_80 rfl (lv_at hl 4 rfl) ?_
          refine W.callR (W.runS (As := [.int (nI (pO (pKeep S (16 * r + z) h) (16 * r + z))), .int (nI (h))]) (rest := []) ⟨hx, hb, hml, hown, hts⟩ (c1_isBetter l (pO (pKeep S (16 * r + z) h) (16 * r + z)) h (by omega) (by omega)) (va_cwS 2 hts gX1_hear_X1_isBetter rfl rfl rfl (by decide +kernel) ⟨Nat.le_of_ble_eq_true rfl, Nat.le_of_ble_eq_true rfl⟩) preEq rfl rfl hl.1 rfl (lv_room (Nat.le_of_ble_eq_true rfl)) dX1_hear_81 ⟨Nat.zero_le _, Nat.zero_le _⟩) ?_
          refine W.eq (g2 := F0 m 84 ls [.int (bI (pB (pO (pKeep S (16 * r + z) h) (16 * r + z)) h))]) rfl ?_
          refine xx_if0 (tgt := 93) hx hb dX1_hear_84 (by decide) (fun h9 => ?_) (fun h9 => ?_)
          · skip
            exact W.vret hx hb hr (fun t ht hW => ⟨rfl, by rw [ht, h2_no2 h9]; exact hP, hS.F ht⟩) hS.2.2 dX1_hear_93
          · skip
            refine lv_aload_n hx hb dX1_hear_87 rfl (lv_at hl 1 rfl) ?_
            refine lv_iload_n hx hb dX1_hear_88 rfl (lv_at hl 2 rfl) ?_
            refine lv_iload_n hx hb dX1_hear_89 rfl (lv_at hl 3 rfl) ?_
            refine xx_callM (W.runV (As := [.int (nI (r)), .int (nI (z))]) (rest := []) ⟨hx, hb, hml, hown, hts⟩ (c1_say l D ad hd ck (pKeep S (16 * r + z) h) (a + sN (pKeep S (16 * r + z) h)) hiK r z (by omega) (by omega) (by rw [sN_keep]; exact hn (by rw [← pO_keep S (16 * r + z) h (16 * r + z)]; exact h9))) (cwV 2 hts gX1_hear_X1_say rfl rfl rfl (by decide +kernel) ⟨Nat.le_of_ble_eq_true rfl, Nat.le_of_ble_eq_true rfl⟩) (PW_pre hK hP (ci := 1) rfl rfl) rfl rfl hl.1 rfl (lv_room (Nat.le_of_ble_eq_true rfl)) dX1_hear_90 ⟨Nat.zero_le _, Nat.zero_le _⟩) hS (fun _ h => h) (fun H locs hP _ hS => ?_)
            have hP : va_P D vwCl (wM ad ck (pSay (pKeep S (16 * r + z) h) (pO (pKeep S (16 * r + z) h) (16 * r + z))) ((a + sN (pKeep S (16 * r + z) h)) + 1)) H := hP
            refine W.eq (g2 := F0 m 93 ls []) rfl ?_
            exact W.vret hx hb hr (fun t ht hW => ⟨rfl, by rw [ht, h2_go h8 h9]; exact hP, hS.F ht⟩) hS.2.2 dX1_hear_93
      · skip
        refine lv_aload_n hx hb dX1_hear_35 rfl (lv_at hl 1 rfl) ?_
        refine va_get (D := D) (ci := 1) (v := .ref (ad 6)) (C := RX1) (T := TX1) (N := 11) hx hb hts hin0 hown hK hP 0 rfl rfl 7 (by decide) (hts (.fieldLink RX1 26 "ClaimBenchModel" "keptClaim" "[I") (by decide +kernel)) (fun _ h9 => h9) rfl dX1_hear_36 ?_
        refine lv_bipush (v := nI 16) hx hb dX1_hear_39 (by decide) ?_
        refine lv_iload_n hx hb dX1_hear_41 rfl (lv_at hl 2 rfl) ?_
        refine xx_mul hx hb dX1_hear_42 ?_
        refine lv_iload_n hx hb dX1_hear_43 rfl (lv_at hl 3 rfl) ?_
        refine xx_add hx hb dX1_hear_44 ?_
        refine lv_iload_n hx hb dX1_hear_45 rfl (lv_at hl 4 rfl) ?_
        refine xx_ast hx hb hK hP (dM hd ck _ _) hS 6 5 rfl rfl (j := (16 * r) + z) (by omega) (by decide) (fun c_ => kM (uU (uC S (upN (sC S) (16 * r + z) h)) (upN (sU S) (16 * r + z) (sT S + 60))) c_) (st_km S (16 * r + z) h) dX1_hear_46 (fun H locs hP hS => ?_)
        have hP : va_P D vwCl ((wM ad ck S (a + sN S)).set 6 (ad 6, .inl (ck 6, 160, .inl (fun c_ => kM (uU (uC S (upN (sC S) (16 * r + z) h)) (upN (sU S) (16 * r + z) (sT S + 60))) c_)))) H := hP
        refine lv_aload_n hx hb dX1_hear_47 rfl (lv_at hl 1 rfl) ?_
        refine va_get (D := D) (ci := 1) (v := .ref (ad 7)) (C := RX1) (T := TX1) (N := 11) hx hb hts hin0 hown hK hP 0 rfl rfl 8 (by decide) (hts (.fieldLink RX1 29 "ClaimBenchModel" "keptTill" "[I") (by decide +kernel)) (fun _ h9 => h9) rfl dX1_hear_48 ?_
        refine lv_bipush (v := nI 16) hx hb dX1_hear_51 (by decide) ?_
        refine lv_iload_n hx hb dX1_hear_53 rfl (lv_at hl 2 rfl) ?_
        refine xx_mul hx hb dX1_hear_54 ?_
        refine lv_iload_n hx hb dX1_hear_55 rfl (lv_at hl 3 rfl) ?_
        refine xx_add hx hb dX1_hear_56 ?_
        refine lv_aload_n hx hb dX1_hear_57 rfl (lv_at hl 1 rfl) ?_
        refine va_get (D := D) (ci := 1) (v := .int (nI (sT S))) (C := RX1) (T := TX1) (N := 11) hx hb hts hin0 hown hK hP 0 rfl rfl 0 (by decide) (hts (.fieldLink RX1 39 "ClaimBenchModel" "time" "I") (by decide +kernel)) (fun _ h9 => h9) rfl dX1_hear_58 ?_
        refine lv_bipush (v := nI 60) hx hb dX1_hear_61 (by decide) ?_
        refine xx_add hx hb dX1_hear_63 ?_
        refine xx_ast hx hb hK hP ((dM hd ck S (a + sN S)).set (p := 6) rfl) hS 7 6 rfl rfl (j := (16 * r) + z) (by omega) (by decide) (fun c_ => nI (sU (uU (uC S (upN (sC S) (16 * r + z) h)) (upN (sU S) (16 * r + z) (sT S + 60))) c_)) (st_n (sU S) (16 * r + z) (sT S + 60)) dX1_hear_64 (fun H locs hP hS => ?_)
        have hP : va_P D vwCl (wM ad ck (uU (uC S (upN (sC S) (16 * r + z) h)) (upN (sU S) (16 * r + z) (sT S + 60))) (a + sN S)) H := hP
        have hP : va_P D vwCl (wM ad ck (pKeep S (16 * r + z) h) (a + sN (pKeep S (16 * r + z) h))) H := by rw [show pKeep S (16 * r + z) h = uU (uC S (upN (sC S) (16 * r + z) h)) (upN (sU S) (16 * r + z) (sT S + 60)) from if_pos (by rw [hk1, h4, decide_eq_true h7.symm]; rfl)]; exact hP
        refine lv_aload_n hx hb dX1_hear_65 rfl (lv_at hl 1 rfl) ?_
        refine lv_iload_n hx hb dX1_hear_66 rfl (lv_at hl 2 rfl) ?_
        refine lv_iload_n hx hb dX1_hear_67 rfl (lv_at hl 3 rfl) ?_
        refine W.callR (W.runV (As := [.int (nI (r)), .int (nI (z))]) (rest := []) ⟨hx, hb, hml, hown, hts⟩ (c1_isSending l D ad ck (pKeep S (16 * r + z) h) (a + sN (pKeep S (16 * r + z) h)) hiK r z (by omega) (by omega)) (cwV 2 hts gX1_hear_X1_isSending rfl rfl rfl (by decide +kernel) ⟨Nat.le_of_ble_eq_true rfl, Nat.le_of_ble_eq_true rfl⟩) (PW_pre hK hP (ci := 1) rfl rfl) rfl rfl hl.1 rfl (lv_room (Nat.le_of_ble_eq_true rfl)) dX1_hear_68 ⟨Nat.zero_le _, Nat.zero_le _⟩) ?_
        refine W.eq (g2 := F0 m 71 ls [.int (bI (pS (pKeep S (16 * r + z) h) r z))]) rfl ?_
        refine xx_if0 (tgt := 93) hx hb dX1_hear_71 (by decide) (fun h10 => ?_) (fun h10 => ?_)
        · skip
          exact W.vret hx hb hr (fun t ht hW => ⟨rfl, by rw [ht, h2_no1 h10]; exact hP, hS.F ht⟩) hS.2.2 dX1_hear_93
        · skip
          refine lv_aload_n hx hb dX1_hear_74 rfl (lv_at hl 1 rfl) ?_
          refine lv_iload_n hx hb dX1_hear_75 rfl (lv_at hl 2 rfl) ?_
          refine lv_iload_n hx hb dX1_hear_76 rfl (lv_at hl 3 rfl) ?_
          refine W.callR (W.runV (As := [.int (nI (r)), .int (nI (z))]) (rest := []) ⟨hx, hb, hml, hown, hts⟩ (c1_own l D ad ck (pKeep S (16 * r + z) h) (a + sN (pKeep S (16 * r + z) h)) hiK r z (by omega) (by omega)) (cwV 2 hts gX1_hear_X1_own rfl rfl rfl (by decide +kernel) ⟨Nat.le_of_ble_eq_true rfl, Nat.le_of_ble_eq_true rfl⟩) (PW_pre hK hP (ci := 1) rfl rfl) rfl rfl hl.1 rfl (lv_room (Nat.le_of_ble_eq_true rfl)) dX1_hear_77 ⟨Nat.zero_le _, Nat.zero_le _⟩) ?_
          refine W.eq (g2 := F0 m 80 ls [.int (nI (pO (pKeep S (16 * r + z) h) (16 * r + z)))]) rfl ?_
          refine lv_iload_n hx hb dX1_hear_80 rfl (lv_at hl 4 rfl) ?_
          refine W.callR (W.runS (As := [.int (nI (pO (pKeep S (16 * r + z) h) (16 * r + z))), .int (nI (h))]) (rest := []) ⟨hx, hb, hml, hown, hts⟩ (c1_isBetter l (pO (pKeep S (16 * r + z) h) (16 * r + z)) h (by omega) (by omega)) (va_cwS 2 hts gX1_hear_X1_isBetter rfl rfl rfl (by decide +kernel) ⟨Nat.le_of_ble_eq_true rfl, Nat.le_of_ble_eq_true rfl⟩) preEq rfl rfl hl.1 rfl (lv_room (Nat.le_of_ble_eq_true rfl)) dX1_hear_81 ⟨Nat.zero_le _, Nat.zero_le _⟩) ?_
          refine W.eq (g2 := F0 m 84 ls [.int (bI (pB (pO (pKeep S (16 * r + z) h) (16 * r + z)) h))]) rfl ?_
          refine xx_if0 (tgt := 93) hx hb dX1_hear_84 (by decide) (fun h11 => ?_) (fun h11 => ?_)
          · skip
            exact W.vret hx hb hr (fun t ht hW => ⟨rfl, by rw [ht, h2_no2 h11]; exact hP, hS.F ht⟩) hS.2.2 dX1_hear_93
          · skip
            refine lv_aload_n hx hb dX1_hear_87 rfl (lv_at hl 1 rfl) ?_
            refine lv_iload_n hx hb dX1_hear_88 rfl (lv_at hl 2 rfl) ?_
            refine lv_iload_n hx hb dX1_hear_89 rfl (lv_at hl 3 rfl) ?_
            refine xx_callM (W.runV (As := [.int (nI (r)), .int (nI (z))]) (rest := []) ⟨hx, hb, hml, hown, hts⟩ (c1_say l D ad hd ck (pKeep S (16 * r + z) h) (a + sN (pKeep S (16 * r + z) h)) hiK r z (by omega) (by omega) (by rw [sN_keep]; exact hn (by rw [← pO_keep S (16 * r + z) h (16 * r + z)]; exact h11))) (cwV 2 hts gX1_hear_X1_say rfl rfl rfl (by decide +kernel) ⟨Nat.le_of_ble_eq_true rfl, Nat.le_of_ble_eq_true rfl⟩) (PW_pre hK hP (ci := 1) rfl rfl) rfl rfl hl.1 rfl (lv_room (Nat.le_of_ble_eq_true rfl)) dX1_hear_90 ⟨Nat.zero_le _, Nat.zero_le _⟩) hS (fun _ h => h) (fun H locs hP _ hS => ?_)
            have hP : va_P D vwCl (wM ad ck (pSay (pKeep S (16 * r + z) h) (pO (pKeep S (16 * r + z) h) (16 * r + z))) ((a + sN (pKeep S (16 * r + z) h)) + 1)) H := hP
            refine W.eq (g2 := F0 m 93 ls []) rfl ?_
            exact W.vret hx hb hr (fun t ht hW => ⟨rfl, by rw [ht, h2_go h10 h11]; exact hP, hS.F ht⟩) hS.2.2 dX1_hear_93
set_option maxHeartbeats 4000000 in
set_option maxRecDepth 100000 in
theorem c0_sayFirstClaims (l : Launch) (D : va_G) (ad : Nat → Nat) (hd : apt 6 ad) (ck : Nat → ClassId) (S : AS) (a : Nat) (hi : iv S) (r z : Nat) (hr10 : r < 10) (hz16 : z < 16) (h0 : sN S = 0) : Met l yX0_sayFirstClaims wsX0_sayFirstClaims ({ frames := 4, cells := 0, slots := 0, locals := 86 }) (PW D (wB ad ck S a) (tyB ck) [.ref (ad 0), .int (nI (r)), .int (nI (z))]) (QcM none (fun H => va_P D vwCl (wB ad ck (pFirst S r z 10) a) H) (aB ad)) 0 0 (aB ad) := by
  refine Met.ofW (cc := cX0_sayFirstClaims) (maxL := 4) (ret := none) (by decide) rfl ?_
  intro p e s m args below meth c s₁ B hml hv
  obtain ⟨rfl, hP, hK⟩ := hv
  have hx := B.exec
  have hb := B.bytes
  have hr := B.returns
  have hts := atoms_spec (ws := wsX0_sayFirstClaims) B.pre
  have hown : s.vm.findClass RX0 = some m.cls := findClass_of_methodNamed B.named
  have hlocks := B.notSynchronized
  have hin0 : ∀ w ∈ wsX00, w ∈ wsX0_sayFirstClaims := by decide +kernel
  have hl := lv_entry ([.ref (ad 0), .int (nI (r)), .int (nI (z))]) (n := 4) (Nat.le_of_ble_eq_true rfl)
  rw [lg_entry_eq]
  generalize (lg_sl ([.ref (ad 0), .int (nI (r)), .int (nI (z))]) ++ List.replicate (4 - (lg_sl ([.ref (ad 0), .int (nI (r)), .int (nI (z))])).length) Slot.unset).toArray = ls at hl ⊢
  have hl : lv_has ls 4 [(0, .ref (ad 0)), (1, .int (nI (r))), (2, .int (nI (z)))] := hl
  have hS : va_S (aB ad) s.heap s.heap [] := va_S.rf
  have hF := first_inv hi h0 (r := r) hz16
  refine lv_iconst (v := nI 0) hx hb dX0_sayFirstClaims_0 (by decide) ?_
  refine lv_istore_n (lv' := [(3, .int (nI (0))), (0, .ref (ad 0)), (1, .int (nI (r))), (2, .int (nI (z)))]) hx hb dX0_sayFirstClaims_1 rfl hl (by decide) rfl (fun ls hl => ?_)
  have loop : ∀ (n q : Nat), 10 < q + n → q ≤ 10 → ∀ (H : Heap) (locs : List Loc), va_P D vwCl (wB ad ck (pFirst S r z q) a) H → va_S (aB ad) s.heap H locs → ∀ (ls : Array Slot), lv_has ls 4 [(3, .int (nI (q))), (0, .ref (ad 0)), (1, .int (nI (r))), (2, .int (nI (z)))] → W p l e (headSpec wsX0_sayFirstClaims ({ frames := 4, cells := 0, slots := 0, locals := 86 })).room s m ([.ref (ad 0), .int (nI (r)), .int (nI (z))] : List Value).toArray below meth c H locs 0 0 (MQ below (QcM none (fun H => va_P D vwCl (wB ad ck (pFirst S r z 10) a) H) (aB ad)) ([.ref (ad 0), .int (nI (r)), .int (nI (z))] : List Value).toArray s 0 0 (aB ad)) (F0 m 2 ls []) := by
    intro n
    induction n with
    | zero => exact fun q h1 h2 => absurd h1 (by omega)
    | succ n ih =>
      intro q hq1 hq2 H locs hP hS ls hl
      refine lv_iload_n hx hb dX0_sayFirstClaims_2 rfl (lv_at hl 0 rfl) ?_
      refine lv_bipush (v := nI 10) hx hb dX0_sayFirstClaims_3 (by decide) ?_
      refine xx_ge (tgt := 41) hx hb dX0_sayFirstClaims_5 (by decide) (by omega) (by omega) (fun h1 => ?_) (fun h1 => ?_)
      · skip
        exact W.vret hx hb hr (fun t ht hW => ⟨rfl, by rw [ht]; obtain rfl : q = 10 := (by omega); exact hP, hS.F ht⟩) hS.2.2 dX0_sayFirstClaims_41
      · skip
        refine lv_iload_n hx hb dX0_sayFirstClaims_8 rfl (lv_at hl 0 rfl) ?_
        refine lv_iload_n hx hb dX0_sayFirstClaims_9 rfl (lv_at hl 2 rfl) ?_
        refine xx_eq (tgt := 35) hx hb dX0_sayFirstClaims_10 (by decide) (by omega) (by omega) (fun h2 => ?_) (fun h2 => ?_)
        · skip
          refine lv_iinc (v := nI (q + 1)) (lv' := [(3, .int (nI (q + 1))), (0, .ref (ad 0)), (1, .int (nI (r))), (2, .int (nI (z)))]) hx hb dX0_sayFirstClaims_35 hl (k := 0) rfl (nI_1 _) (by decide) rfl (fun ls hl => ?_)
          refine lv_goto (tgt := 2) hx hb dX0_sayFirstClaims_38 (by decide) ?_
          have hP : va_P D vwCl (wB ad ck (pFirst S r z (q + 1)) a) H := by rw [pFirst, f1_no1 h2]; exact hP
          exact ih (q + 1) (by omega) (by omega) H locs hP hS ls (lv_sub hl [0, 1, 2, 3] rfl)
        · skip
          refine lv_aload_n hx hb dX0_sayFirstClaims_13 rfl (lv_at hl 1 rfl) ?_
          refine lv_iload_n hx hb dX0_sayFirstClaims_14 rfl (lv_at hl 0 rfl) ?_
          refine W.callR (W.runV (As := [.int (nI (q))]) (rest := []) ⟨hx, hb, hml, hown, hts⟩ (c0_isListener l D ad ck (pFirst S r z q) a (hF q hq2).1 q (by omega)) (cwV 1 hts gX0_sayFirstClaims_X0_isListener rfl rfl rfl (by decide +kernel) ⟨Nat.le_of_ble_eq_true rfl, Nat.le_of_ble_eq_true rfl⟩) (PW_pre hK hP (ci := 0) rfl rfl) rfl rfl hl.1 rfl (lv_room (Nat.le_of_ble_eq_true rfl)) dX0_sayFirstClaims_15 ⟨Nat.zero_le _, Nat.zero_le _⟩) ?_
          refine W.eq (g2 := F0 m 18 ls [.int (bI (pH (pFirst S r z q) q))]) rfl ?_
          refine xx_if0 (tgt := 35) hx hb dX0_sayFirstClaims_18 (by decide) (fun h3 => ?_) (fun h3 => ?_)
          · skip
            refine lv_iinc (v := nI (q + 1)) (lv' := [(3, .int (nI (q + 1))), (0, .ref (ad 0)), (1, .int (nI (r))), (2, .int (nI (z)))]) hx hb dX0_sayFirstClaims_35 hl (k := 0) rfl (nI_1 _) (by decide) rfl (fun ls hl => ?_)
            refine lv_goto (tgt := 2) hx hb dX0_sayFirstClaims_38 (by decide) ?_
            have hP : va_P D vwCl (wB ad ck (pFirst S r z (q + 1)) a) H := by rw [pFirst, f1_no2 h3]; exact hP
            exact ih (q + 1) (by omega) (by omega) H locs hP hS ls (lv_sub hl [0, 1, 2, 3] rfl)
          · skip
            refine lv_aload_n hx hb dX0_sayFirstClaims_21 rfl (lv_at hl 1 rfl) ?_
            refine lv_iload_n hx hb dX0_sayFirstClaims_22 rfl (lv_at hl 0 rfl) ?_
            refine lv_iload_n hx hb dX0_sayFirstClaims_23 rfl (lv_at hl 3 rfl) ?_
            refine W.callR (W.runV (As := [.int (nI (q)), .int (nI (z))]) (rest := []) ⟨hx, hb, hml, hown, hts⟩ (c0_isSender l D ad ck (pFirst S r z q) a (hF q hq2).1 q z (by omega) (by omega)) (cwV 2 hts gX0_sayFirstClaims_X0_isSender rfl rfl rfl (by decide +kernel) ⟨Nat.le_of_ble_eq_true rfl, Nat.le_of_ble_eq_true rfl⟩) (PW_pre hK hP (ci := 0) rfl rfl) rfl rfl hl.1 rfl (lv_room (Nat.le_of_ble_eq_true rfl)) dX0_sayFirstClaims_24 ⟨Nat.zero_le _, Nat.zero_le _⟩) ?_
            refine W.eq (g2 := F0 m 27 ls [.int (bI (pS (pFirst S r z q) q z))]) rfl ?_
            refine xx_if0 (tgt := 35) hx hb dX0_sayFirstClaims_27 (by decide) (fun h4 => ?_) (fun h4 => ?_)
            · skip
              refine lv_iinc (v := nI (q + 1)) (lv' := [(3, .int (nI (q + 1))), (0, .ref (ad 0)), (1, .int (nI (r))), (2, .int (nI (z)))]) hx hb dX0_sayFirstClaims_35 hl (k := 0) rfl (nI_1 _) (by decide) rfl (fun ls hl => ?_)
              refine lv_goto (tgt := 2) hx hb dX0_sayFirstClaims_38 (by decide) ?_
              have hP : va_P D vwCl (wB ad ck (pFirst S r z (q + 1)) a) H := by rw [pFirst, f1_no3 h4]; exact hP
              exact ih (q + 1) (by omega) (by omega) H locs hP hS ls (lv_sub hl [0, 1, 2, 3] rfl)
            · skip
              refine lv_aload_n hx hb dX0_sayFirstClaims_30 rfl (lv_at hl 1 rfl) ?_
              refine lv_iload_n hx hb dX0_sayFirstClaims_31 rfl (lv_at hl 0 rfl) ?_
              refine xx_callM (W.runV (As := [.int (nI (q))]) (rest := []) ⟨hx, hb, hml, hown, hts⟩ (c0_sayClaim l D ad hd ck (pFirst S r z q) a (hF q hq2).1 q (pO (pFirst S r z q) (16 * q + z)) (pO_mod (by omega) hz16) (by have := (hF q hq2).2.2.1; omega)) (cwV 1 hts gX0_sayFirstClaims_X0_sayClaim rfl rfl rfl (by decide +kernel) ⟨Nat.le_of_ble_eq_true rfl, Nat.le_of_ble_eq_true rfl⟩) (PW_pre hK hP (ci := 0) rfl rfl) rfl rfl hl.1 rfl (lv_room (Nat.le_of_ble_eq_true rfl)) dX0_sayFirstClaims_32 ⟨Nat.zero_le _, Nat.zero_le _⟩) hS (fun _ h => h) (fun H locs hP _ hS => ?_)
              have hP : va_P D vwCl (wB ad ck (pSay (pFirst S r z q) (pO (pFirst S r z q) (16 * q + z))) a) H := hP
              refine W.eq (g2 := F0 m 35 ls []) rfl ?_
              refine lv_iinc (v := nI (q + 1)) (lv' := [(3, .int (nI (q + 1))), (0, .ref (ad 0)), (1, .int (nI (r))), (2, .int (nI (z)))]) hx hb dX0_sayFirstClaims_35 hl (k := 0) rfl (nI_1 _) (by decide) rfl (fun ls hl => ?_)
              refine lv_goto (tgt := 2) hx hb dX0_sayFirstClaims_38 (by decide) ?_
              have hP : va_P D vwCl (wB ad ck (pFirst S r z (q + 1)) a) H := by rw [pFirst, f1_go h2 h3 h4]; exact hP
              exact ih (q + 1) (by omega) (by omega) H locs hP hS ls (lv_sub hl [0, 1, 2, 3] rfl)
  exact loop 11 0 (by omega) (by omega) s.heap [] hP hS ls (lv_sub hl [0, 1, 2, 3] rfl)
set_option maxHeartbeats 4000000 in
set_option maxRecDepth 100000 in
theorem c0_hearClaim (l : Launch) (D : va_G) (ad : Nat → Nat) (hd : apt 6 ad) (ck : Nat → ClassId) (S : AS) (a : Nat) (hi : iv S) (y z h : Nat) (hy10 : y < 10) (hz16 : z < 16) (hph : pO S (16 * y + z) = h) (hhy : h % 100 = y) (hh : h ≤ 1999909) (hJ : ∀ q, q ≤ 10 → iv (pHear S z h q) ∧ (∀ c, pO (pHear S z h q) c = pO S c) ∧ (q < 10 → pB (pO S (16 * q + z)) h = true → sN (pHear S z h q) < 1023)) : Met l yX0_hearClaim wsX0_hearClaim ({ frames := 4, cells := 0, slots := 0, locals := 86 }) (PW D (wB ad ck S a) (tyB ck) [.ref (ad 0), .int (nI (y)), .int (nI (z))]) (QcM none (fun H => va_P D vwCl (wB ad ck (pHear S z h 10) a) H) (aB ad)) 0 0 (aB ad) := by
  refine Met.ofW (cc := cX0_hearClaim) (maxL := 5) (ret := none) (by decide) rfl ?_
  intro p e s m args below meth c s₁ B hml hv
  obtain ⟨rfl, hP, hK⟩ := hv
  have hx := B.exec
  have hb := B.bytes
  have hr := B.returns
  have hts := atoms_spec (ws := wsX0_hearClaim) B.pre
  have hown : s.vm.findClass RX0 = some m.cls := findClass_of_methodNamed B.named
  have hlocks := B.notSynchronized
  have hin0 : ∀ w ∈ wsX00, w ∈ wsX0_hearClaim := by decide +kernel
  have hl := lv_entry ([.ref (ad 0), .int (nI (y)), .int (nI (z))]) (n := 5) (Nat.le_of_ble_eq_true rfl)
  rw [lg_entry_eq]
  generalize (lg_sl ([.ref (ad 0), .int (nI (y)), .int (nI (z))]) ++ List.replicate (5 - (lg_sl ([.ref (ad 0), .int (nI (y)), .int (nI (z))])).length) Slot.unset).toArray = ls at hl ⊢
  have hl : lv_has ls 5 [(0, .ref (ad 0)), (1, .int (nI (y))), (2, .int (nI (z)))] := hl
  have hS : va_S (aB ad) s.heap s.heap [] := va_S.rf
  refine lv_aload_n hx hb dX0_hearClaim_0 rfl (lv_at hl 0 rfl) ?_
  refine va_get (D := D) (ci := 0) (v := .ref (ad 2)) (C := RX0) (T := TX0) (N := 10) hx hb hts hin0 hown hK hP 0 rfl rfl 5 (by decide) (hts (.fieldLink RX0 26 "ClaimBench" "ownClaims" "[I") (by decide +kernel)) (fun _ h9 => h9) rfl dX0_hearClaim_1 ?_
  refine lv_iload_n hx hb dX0_hearClaim_4 rfl (lv_at hl 1 rfl) ?_
  refine lv_iload_n hx hb dX0_hearClaim_5 rfl (lv_at hl 2 rfl) ?_
  refine W.callR (W.runS (As := [.int (nI (y)), .int (nI (z))]) (rest := [.ref (ad 2)]) ⟨hx, hb, hml, hown, hts⟩ (c0_cellOf l y z) (va_cwS 2 hts gX0_hearClaim_X0_cellOf rfl rfl rfl (by decide +kernel) ⟨Nat.le_of_ble_eq_true rfl, Nat.le_of_ble_eq_true rfl⟩) preEq rfl rfl hl.1 rfl (lv_room (Nat.le_of_ble_eq_true rfl)) dX0_hearClaim_6 ⟨Nat.zero_le _, Nat.zero_le _⟩) ?_
  refine W.eq (g2 := F0 m 9 ls [.int (nI (16 * y + z)), .ref (ad 2)]) rfl ?_
  refine xx_ald hx hb hK hP 2 1 (fun c_ => nI (pO S c_)) rfl rfl (j := 16 * y + z) (by omega) (by decide) dX0_hearClaim_9 ?_
  refine W.eq (g2 := F0 m 10 ls [.int (nI (pO S (16 * y + z)))]) rfl ?_
  refine xx_top (nI h) (congrArg nI hph) ?_
  refine lv_istore_n (lv' := [(3, .int (nI (h))), (0, .ref (ad 0)), (1, .int (nI (y))), (2, .int (nI (z)))]) hx hb dX0_hearClaim_10 rfl hl (by decide) rfl (fun ls hl => ?_)
  refine lv_iconst (v := nI 0) hx hb dX0_hearClaim_11 (by decide) ?_
  refine lv_istore (lv' := [(4, .int (nI (0))), (3, .int (nI (h))), (0, .ref (ad 0)), (1, .int (nI (y))), (2, .int (nI (z)))]) hx hb dX0_hearClaim_12 hl (by decide) rfl (fun ls hl => ?_)
  have loop : ∀ (n q : Nat), 10 < q + n → q ≤ 10 → ∀ (H : Heap) (locs : List Loc), va_P D vwCl (wB ad ck (pHear S z h q) a) H → va_S (aB ad) s.heap H locs → ∀ (ls : Array Slot), lv_has ls 5 [(4, .int (nI (q))), (3, .int (nI (h))), (0, .ref (ad 0)), (1, .int (nI (y))), (2, .int (nI (z)))] → W p l e (headSpec wsX0_hearClaim ({ frames := 4, cells := 0, slots := 0, locals := 86 })).room s m ([.ref (ad 0), .int (nI (y)), .int (nI (z))] : List Value).toArray below meth c H locs 0 0 (MQ below (QcM none (fun H => va_P D vwCl (wB ad ck (pHear S z h 10) a) H) (aB ad)) ([.ref (ad 0), .int (nI (y)), .int (nI (z))] : List Value).toArray s 0 0 (aB ad)) (F0 m 14 ls []) := by
    intro n
    induction n with
    | zero => exact fun q h1 h2 => absurd h1 (by omega)
    | succ n ih =>
      intro q hq1 hq2 H locs hP hS ls hl
      refine lv_iload hx hb dX0_hearClaim_14 (lv_at hl 0 rfl) ?_
      refine lv_bipush (v := nI 10) hx hb dX0_hearClaim_16 (by decide) ?_
      refine xx_ge (tgt := 87) hx hb dX0_hearClaim_18 (by decide) (by omega) (by omega) (fun h1 => ?_) (fun h1 => ?_)
      · skip
        exact W.vret hx hb hr (fun t ht hW => ⟨rfl, by rw [ht]; obtain rfl : q = 10 := (by omega); exact hP, hS.F ht⟩) hS.2.2 dX0_hearClaim_87
      · skip
        refine lv_iload hx hb dX0_hearClaim_21 (lv_at hl 0 rfl) ?_
        refine lv_iload_n hx hb dX0_hearClaim_23 rfl (lv_at hl 3 rfl) ?_
        refine xx_eq (tgt := 81) hx hb dX0_hearClaim_24 (by decide) (by omega) (by omega) (fun h2 => ?_) (fun h2 => ?_)
        · skip
          refine lv_iinc (v := nI (q + 1)) (lv' := [(4, .int (nI (q + 1))), (3, .int (nI (h))), (0, .ref (ad 0)), (1, .int (nI (y))), (2, .int (nI (z)))]) hx hb dX0_hearClaim_81 hl (k := 0) rfl (nI_1 _) (by decide) rfl (fun ls hl => ?_)
          refine lv_goto (tgt := 14) hx hb dX0_hearClaim_84 (by decide) ?_
          have hP : va_P D vwCl (wB ad ck (pHear S z h (q + 1)) a) H := by rw [pHear, h1_no1 (by omega)]; exact hP
          exact ih (q + 1) (by omega) (by omega) H locs hP hS ls (lv_sub hl [0, 1, 2, 3, 4] rfl)
        · skip
          refine lv_aload_n hx hb dX0_hearClaim_27 rfl (lv_at hl 2 rfl) ?_
          refine lv_iload hx hb dX0_hearClaim_28 (lv_at hl 0 rfl) ?_
          refine W.callR (W.runV (As := [.int (nI (q))]) (rest := []) ⟨hx, hb, hml, hown, hts⟩ (c0_isListener l D ad ck (pHear S z h q) a (hJ q hq2).1 q (by omega)) (cwV 1 hts gX0_hearClaim_X0_isListener rfl rfl rfl (by decide +kernel) ⟨Nat.le_of_ble_eq_true rfl, Nat.le_of_ble_eq_true rfl⟩) (PW_pre hK hP (ci := 0) rfl rfl) rfl rfl hl.1 rfl (lv_room (Nat.le_of_ble_eq_true rfl)) dX0_hearClaim_30 ⟨Nat.zero_le _, Nat.zero_le _⟩) ?_
          refine W.eq (g2 := F0 m 33 ls [.int (bI (pH (pHear S z h q) q))]) rfl ?_
          refine xx_if0 (tgt := 81) hx hb dX0_hearClaim_33 (by decide) (fun h3 => ?_) (fun h3 => ?_)
          · skip
            refine lv_iinc (v := nI (q + 1)) (lv' := [(4, .int (nI (q + 1))), (3, .int (nI (h))), (0, .ref (ad 0)), (1, .int (nI (y))), (2, .int (nI (z)))]) hx hb dX0_hearClaim_81 hl (k := 0) rfl (nI_1 _) (by decide) rfl (fun ls hl => ?_)
            refine lv_goto (tgt := 14) hx hb dX0_hearClaim_84 (by decide) ?_
            have hP : va_P D vwCl (wB ad ck (pHear S z h (q + 1)) a) H := by rw [pHear, h1_no2 h3]; exact hP
            exact ih (q + 1) (by omega) (by omega) H locs hP hS ls (lv_sub hl [0, 1, 2, 3, 4] rfl)
          · skip
            refine lv_aload_n hx hb dX0_hearClaim_36 rfl (lv_at hl 2 rfl) ?_
            refine lv_iload hx hb dX0_hearClaim_37 (lv_at hl 0 rfl) ?_
            refine lv_iload_n hx hb dX0_hearClaim_39 rfl (lv_at hl 4 rfl) ?_
            refine W.callR (W.runS (As := [.int (nI (q)), .int (nI (z))]) (rest := [.ref (ad 0)]) ⟨hx, hb, hml, hown, hts⟩ (c0_cellOf l q z) (va_cwS 2 hts gX0_hearClaim_X0_cellOf rfl rfl rfl (by decide +kernel) ⟨Nat.le_of_ble_eq_true rfl, Nat.le_of_ble_eq_true rfl⟩) preEq rfl rfl hl.1 rfl (lv_room (Nat.le_of_ble_eq_true rfl)) dX0_hearClaim_40 ⟨Nat.zero_le _, Nat.zero_le _⟩) ?_
            refine W.eq (g2 := F0 m 43 ls [.int (nI (16 * q + z)), .ref (ad 0)]) rfl ?_
            refine lv_iload_n hx hb dX0_hearClaim_43 rfl (lv_at hl 1 rfl) ?_
            refine xx_callM (W.runV (As := [.int (nI (16 * q + z)), .int (nI (h))]) (rest := []) ⟨hx, hb, hml, hown, hts⟩ (c0_keepIfDue l D ad hd ck (pHear S z h q) a (hJ q hq2).1 (16 * q + z) h (by omega) (by omega)) (cwV 2 hts gX0_hearClaim_X0_keepIfDue rfl rfl rfl (by decide +kernel) ⟨Nat.le_of_ble_eq_true rfl, Nat.le_of_ble_eq_true rfl⟩) (PW_pre hK hP (ci := 0) rfl rfl) rfl rfl hl.1 rfl (lv_room (Nat.le_of_ble_eq_true rfl)) dX0_hearClaim_44 ⟨Nat.zero_le _, Nat.zero_le _⟩) hS (fun _ h => h) (fun H locs hP _ hS => ?_)
            have hP : va_P D vwCl (wB ad ck (pKeep (pHear S z h q) (16 * q + z) h) a) H := hP
            have hiK := iv_keep (k := (16 * q + z)) (hJ q hq2).1 (show h % 100 < 10 by omega) (show h ≤ 1999909 by omega)
            have hOK := pO_le hiK (k := (16 * q + z)) (by omega)
            refine W.eq (g2 := F0 m 47 ls []) rfl ?_
            refine lv_aload_n hx hb dX0_hearClaim_47 rfl (lv_at hl 2 rfl) ?_
            refine lv_iload hx hb dX0_hearClaim_48 (lv_at hl 0 rfl) ?_
            refine lv_iload_n hx hb dX0_hearClaim_50 rfl (lv_at hl 4 rfl) ?_
            refine W.callR (W.runV (As := [.int (nI (q)), .int (nI (z))]) (rest := []) ⟨hx, hb, hml, hown, hts⟩ (c0_isSender l D ad ck (pKeep (pHear S z h q) (16 * q + z) h) a hiK q z (by omega) (by omega)) (cwV 2 hts gX0_hearClaim_X0_isSender rfl rfl rfl (by decide +kernel) ⟨Nat.le_of_ble_eq_true rfl, Nat.le_of_ble_eq_true rfl⟩) (PW_pre hK hP (ci := 0) rfl rfl) rfl rfl hl.1 rfl (lv_room (Nat.le_of_ble_eq_true rfl)) dX0_hearClaim_51 ⟨Nat.zero_le _, Nat.zero_le _⟩) ?_
            refine W.eq (g2 := F0 m 54 ls [.int (bI (pS (pKeep (pHear S z h q) (16 * q + z) h) q z))]) rfl ?_
            refine xx_if0 (tgt := 81) hx hb dX0_hearClaim_54 (by decide) (fun h4 => ?_) (fun h4 => ?_)
            · skip
              refine lv_iinc (v := nI (q + 1)) (lv' := [(4, .int (nI (q + 1))), (3, .int (nI (h))), (0, .ref (ad 0)), (1, .int (nI (y))), (2, .int (nI (z)))]) hx hb dX0_hearClaim_81 hl (k := 0) rfl (nI_1 _) (by decide) rfl (fun ls hl => ?_)
              refine lv_goto (tgt := 14) hx hb dX0_hearClaim_84 (by decide) ?_
              have hP : va_P D vwCl (wB ad ck (pHear S z h (q + 1)) a) H := by rw [pHear, h1_go (by omega) h3, h2_no1 h4]; exact hP
              exact ih (q + 1) (by omega) (by omega) H locs hP hS ls (lv_sub hl [0, 1, 2, 3, 4] rfl)
            · skip
              refine lv_aload_n hx hb dX0_hearClaim_57 rfl (lv_at hl 2 rfl) ?_
              refine va_get (D := D) (ci := 0) (v := .ref (ad 2)) (C := RX0) (T := TX0) (N := 10) hx hb hts hin0 hown hK hP 0 rfl rfl 5 (by decide) (hts (.fieldLink RX0 26 "ClaimBench" "ownClaims" "[I") (by decide +kernel)) (fun _ h9 => h9) rfl dX0_hearClaim_58 ?_
              refine lv_iload hx hb dX0_hearClaim_61 (lv_at hl 0 rfl) ?_
              refine lv_iload_n hx hb dX0_hearClaim_63 rfl (lv_at hl 4 rfl) ?_
              refine W.callR (W.runS (As := [.int (nI (q)), .int (nI (z))]) (rest := [.ref (ad 2)]) ⟨hx, hb, hml, hown, hts⟩ (c0_cellOf l q z) (va_cwS 2 hts gX0_hearClaim_X0_cellOf rfl rfl rfl (by decide +kernel) ⟨Nat.le_of_ble_eq_true rfl, Nat.le_of_ble_eq_true rfl⟩) preEq rfl rfl hl.1 rfl (lv_room (Nat.le_of_ble_eq_true rfl)) dX0_hearClaim_64 ⟨Nat.zero_le _, Nat.zero_le _⟩) ?_
              refine W.eq (g2 := F0 m 67 ls [.int (nI (16 * q + z)), .ref (ad 2)]) rfl ?_
              refine xx_ald hx hb hK hP 2 1 (fun c_ => nI (pO (pKeep (pHear S z h q) (16 * q + z) h) c_)) rfl rfl (j := 16 * q + z) (by omega) (by decide) dX0_hearClaim_67 ?_
              refine W.eq (g2 := F0 m 68 ls [.int (nI (pO (pKeep (pHear S z h q) (16 * q + z) h) (16 * q + z)))]) rfl ?_
              refine lv_iload_n hx hb dX0_hearClaim_68 rfl (lv_at hl 1 rfl) ?_
              refine W.callR (W.runS (As := [.int (nI (pO (pKeep (pHear S z h q) (16 * q + z) h) (16 * q + z))), .int (nI (h))]) (rest := []) ⟨hx, hb, hml, hown, hts⟩ (c0_isBetter l (pO (pKeep (pHear S z h q) (16 * q + z) h) (16 * q + z)) h (by omega) (by omega)) (va_cwS 2 hts gX0_hearClaim_X0_isBetter rfl rfl rfl (by decide +kernel) ⟨Nat.le_of_ble_eq_true rfl, Nat.le_of_ble_eq_true rfl⟩) preEq rfl rfl hl.1 rfl (lv_room (Nat.le_of_ble_eq_true rfl)) dX0_hearClaim_69 ⟨Nat.zero_le _, Nat.zero_le _⟩) ?_
              refine W.eq (g2 := F0 m 72 ls [.int (bI (pB (pO (pKeep (pHear S z h q) (16 * q + z) h) (16 * q + z)) h))]) rfl ?_
              refine xx_if0 (tgt := 81) hx hb dX0_hearClaim_72 (by decide) (fun h5 => ?_) (fun h5 => ?_)
              · skip
                refine lv_iinc (v := nI (q + 1)) (lv' := [(4, .int (nI (q + 1))), (3, .int (nI (h))), (0, .ref (ad 0)), (1, .int (nI (y))), (2, .int (nI (z)))]) hx hb dX0_hearClaim_81 hl (k := 0) rfl (nI_1 _) (by decide) rfl (fun ls hl => ?_)
                refine lv_goto (tgt := 14) hx hb dX0_hearClaim_84 (by decide) ?_
                have hP : va_P D vwCl (wB ad ck (pHear S z h (q + 1)) a) H := by rw [pHear, h1_go (by omega) h3, h2_no2 h5]; exact hP
                exact ih (q + 1) (by omega) (by omega) H locs hP hS ls (lv_sub hl [0, 1, 2, 3, 4] rfl)
              · skip
                refine lv_aload_n hx hb dX0_hearClaim_75 rfl (lv_at hl 2 rfl) ?_
                refine lv_iload hx hb dX0_hearClaim_76 (lv_at hl 0 rfl) ?_
                refine xx_callM (W.runV (As := [.int (nI (q))]) (rest := []) ⟨hx, hb, hml, hown, hts⟩ (c0_sayClaim l D ad hd ck (pKeep (pHear S z h q) (16 * q + z) h) a hiK q (pO (pKeep (pHear S z h q) (16 * q + z) h) (16 * q + z)) (pO_mod (by omega) hz16) (by rw [sN_keep]; exact (hJ q hq2).2.2 (by omega) (by rw [← (hJ q hq2).2.1 (16 * q + z), ← pO_keep (pHear S z h q) (16 * q + z) h (16 * q + z)]; exact h5))) (cwV 1 hts gX0_hearClaim_X0_sayClaim rfl rfl rfl (by decide +kernel) ⟨Nat.le_of_ble_eq_true rfl, Nat.le_of_ble_eq_true rfl⟩) (PW_pre hK hP (ci := 0) rfl rfl) rfl rfl hl.1 rfl (lv_room (Nat.le_of_ble_eq_true rfl)) dX0_hearClaim_78 ⟨Nat.zero_le _, Nat.zero_le _⟩) hS (fun _ h => h) (fun H locs hP _ hS => ?_)
                have hP : va_P D vwCl (wB ad ck (pSay (pKeep (pHear S z h q) (16 * q + z) h) (pO (pKeep (pHear S z h q) (16 * q + z) h) (16 * q + z))) a) H := hP
                refine W.eq (g2 := F0 m 81 ls []) rfl ?_
                refine lv_iinc (v := nI (q + 1)) (lv' := [(4, .int (nI (q + 1))), (3, .int (nI (h))), (0, .ref (ad 0)), (1, .int (nI (y))), (2, .int (nI (z)))]) hx hb dX0_hearClaim_81 hl (k := 0) rfl (nI_1 _) (by decide) rfl (fun ls hl => ?_)
                refine lv_goto (tgt := 14) hx hb dX0_hearClaim_84 (by decide) ?_
                have hP : va_P D vwCl (wB ad ck (pHear S z h (q + 1)) a) H := by rw [pHear, h1_go (by omega) h3, h2_go h4 h5]; exact hP
                exact ih (q + 1) (by omega) (by omega) H locs hP hS ls (lv_sub hl [0, 1, 2, 3, 4] rfl)
  exact loop 11 0 (by omega) (by omega) s.heap [] hP hS ls (lv_sub hl [0, 1, 2, 3, 4] rfl)
set_option maxHeartbeats 4000000 in
set_option maxRecDepth 100000 in
theorem c0_data (l : Launch) (D : va_G) (ad : Nat → Nat) (hd : apt 6 ad) (ck : Nat → ClassId) (S : AS) (a : Nat) (hi : iv S) (x y : Int32) : Met l yX0_data wsX0_data ({ frames := 5, cells := 0, slots := 0, locals := 110 }) (PW D (wB ad ck S a) (tyB ck) [.ref (ad 0), .int (x), .int (y)]) (QcM (some (.int (aData S x y))) (fun H => va_P D vwCl (wB ad ck (pDt S x y) (nDt S a x y)) H) (aB ad)) 0 0 (aB ad) := by
  refine Met.ofW (cc := cX0_data) (maxL := 4) (ret := (some .int)) (by decide) rfl ?_
  intro p e s m args below meth c s₁ B hml hv
  obtain ⟨rfl, hP, hK⟩ := hv
  have hx := B.exec
  have hb := B.bytes
  have hr := B.returns
  have hts := atoms_spec (ws := wsX0_data) B.pre
  have hown : s.vm.findClass RX0 = some m.cls := findClass_of_methodNamed B.named
  have hlocks := B.notSynchronized
  have hin0 : ∀ w ∈ wsX00, w ∈ wsX0_data := by decide +kernel
  have hl := lv_entry ([.ref (ad 0), .int (x), .int (y)]) (n := 4) (Nat.le_of_ble_eq_true rfl)
  rw [lg_entry_eq]
  generalize (lg_sl ([.ref (ad 0), .int (x), .int (y)]) ++ List.replicate (4 - (lg_sl ([.ref (ad 0), .int (x), .int (y)])).length) Slot.unset).toArray = ls at hl ⊢
  have hl : lv_has ls 4 [(0, .ref (ad 0)), (1, .int (x)), (2, .int (y))] := hl
  have hS : va_S (aB ad) s.heap s.heap [] := va_S.rf
  refine lv_iload_n hx hb dX0_data_0 rfl (lv_at hl 1 rfl) ?_
  refine W.callR (W.runS (As := [.int (x)]) (rest := []) ⟨hx, hb, hml, hown, hts⟩ (c0_isRouter l ((x))) (va_cwS 1 hts gX0_data_X0_isRouter rfl rfl rfl (by decide +kernel) ⟨Nat.le_of_ble_eq_true rfl, Nat.le_of_ble_eq_true rfl⟩) preEq rfl rfl hl.1 rfl (lv_room (Nat.le_of_ble_eq_true rfl)) dX0_data_1 ⟨Nat.zero_le _, Nat.zero_le _⟩) ?_
  refine W.eq (g2 := F0 m 4 ls [.int (bI (inR 10 ((x))))]) rfl ?_
  refine xx_if0 (tgt := 25) hx hb dX0_data_4 (by decide) (fun h1 => ?_) (fun h1 => ?_)
  · skip
    refine lv_iconst (v := -1) hx hb dX0_data_25 (by decide) ?_
    exact W.iret (v := (-1)) hx hb hr (fun t ht hW => ⟨ro_i (dt_f (a := a) (S := S) (x := x) (y := y) (by rw [h1]; rfl)).1.symm, by rw [ht, (dt_f (a := a) (S := S) (x := x) (y := y) (by rw [h1]; rfl)).2.1, (dt_f (a := a) (S := S) (x := x) (y := y) (by rw [h1]; rfl)).2.2]; exact hP, hS.F ht⟩) hS.2.2 dX0_data_26
  · skip
    obtain ⟨r, hr10, rfl⟩ := inR_t (by decide) h1
    refine lv_iload_n hx hb dX0_data_7 rfl (lv_at hl 2 rfl) ?_
    refine W.callR (W.runS (As := [.int (y)]) (rest := []) ⟨hx, hb, hml, hown, hts⟩ (c0_isSource l ((y))) (va_cwS 1 hts gX0_data_X0_isSource rfl rfl rfl (by decide +kernel) ⟨Nat.le_of_ble_eq_true rfl, Nat.le_of_ble_eq_true rfl⟩) preEq rfl rfl hl.1 rfl (lv_room (Nat.le_of_ble_eq_true rfl)) dX0_data_8 ⟨Nat.zero_le _, Nat.zero_le _⟩) ?_
    refine W.eq (g2 := F0 m 11 ls [.int (bI (inR 16 ((y))))]) rfl ?_
    refine xx_if0 (tgt := 25) hx hb dX0_data_11 (by decide) (fun h2 => ?_) (fun h2 => ?_)
    · skip
      refine lv_iconst (v := -1) hx hb dX0_data_25 (by decide) ?_
      exact W.iret (v := (-1)) hx hb hr (fun t ht hW => ⟨ro_i (dt_f (a := a) (S := S) (x := nI r) (y := y) (by rw [h2, Bool.and_false])).1.symm, by rw [ht, (dt_f (a := a) (S := S) (x := nI r) (y := y) (by rw [h2, Bool.and_false])).2.1, (dt_f (a := a) (S := S) (x := nI r) (y := y) (by rw [h2, Bool.and_false])).2.2]; exact hP, hS.F ht⟩) hS.2.2 dX0_data_26
    · skip
      obtain ⟨z, hz16, rfl⟩ := inR_t (by decide) h2
      refine lv_aload_n hx hb dX0_data_14 rfl (lv_at hl 0 rfl) ?_
      refine va_get (D := D) (ci := 0) (v := .int (nI (bm (fun i_ => !(sG S i_))))) (C := RX0) (T := TX0) (N := 10) hx hb hts hin0 hown hK hP 0 rfl rfl 1 (by decide) (hts (.fieldLink RX0 13 "ClaimBench" "thereBits" "I") (by decide +kernel)) (fun _ h9 => h9) rfl dX0_data_15 ?_
      refine lv_iload_n hx hb dX0_data_18 rfl (lv_at hl 1 rfl) ?_
      refine W.callR (W.runS (As := [.int (nI (bm (fun i_ => !(sG S i_)))), .int (nI (r))]) (rest := []) ⟨hx, hb, hml, hown, hts⟩ (c0_hasBit l (fun i_ => !(sG S i_)) r (by omega)) (va_cwS 2 hts gX0_data_X0_hasBit rfl rfl rfl (by decide +kernel) ⟨Nat.le_of_ble_eq_true rfl, Nat.le_of_ble_eq_true rfl⟩) preEq rfl rfl hl.1 rfl (lv_room (Nat.le_of_ble_eq_true rfl)) dX0_data_19 ⟨Nat.zero_le _, Nat.zero_le _⟩) ?_
      refine W.eq (g2 := F0 m 22 ls [.int (bI ((fun i_ => !(sG S i_)) r))]) rfl ?_
      refine xx_if1 (tgt := 27) hx hb dX0_data_22 (by decide) (fun h3 => ?_) (fun h3 => ?_)
      · skip
        have hG : sG S r = false := by have q9 : (!(sG S r)) = true := h3; simpa using q9
        refine lv_aload_n hx hb dX0_data_27 rfl (lv_at hl 0 rfl) ?_
        refine lv_iconst (v := nI 0) hx hb dX0_data_28 (by decide) ?_
        refine va_put (D := D) (ci := 0) (v := .int (nI (0))) (ty := .int) (C := RX0) (T := TX0) (N := 10) hx hb hts hin0 tyX0 tyX0_ok nmX0 hown hK hP (dB hd ck _ _) hS 0 rfl rfl 9 (by decide) (hts (.fieldLink RX0 38 "ClaimBench" "rowLength" "I") (by decide +kernel)) (fun _ h9 => h9) rfl (by decide +kernel) rfl rfl (Nat.le_of_ble_eq_true rfl) dX0_data_29 (fun H locs hP _ hS => ?_)
        have hP : va_P D vwCl (wB ad ck (uN S 0) a) H := hP
        refine lv_aload_n hx hb dX0_data_32 rfl (lv_at hl 0 rfl) ?_
        refine lv_iload_n hx hb dX0_data_33 rfl (lv_at hl 1 rfl) ?_
        refine lv_iload_n hx hb dX0_data_34 rfl (lv_at hl 2 rfl) ?_
        refine xx_callM (W.runV (As := [.int (nI (r)), .int (nI (z))]) (rest := []) ⟨hx, hb, hml, hown, hts⟩ (c0_sayFirstClaims l D ad hd ck (uN S 0) a (iv_n0 hi) r z (by omega) (by omega) rfl) (cwV 2 hts gX0_data_X0_sayFirstClaims rfl rfl rfl (by decide +kernel) ⟨Nat.le_of_ble_eq_true rfl, Nat.le_of_ble_eq_true rfl⟩) (PW_pre hK hP (ci := 0) rfl rfl) rfl rfl hl.1 rfl (lv_room (Nat.le_of_ble_eq_true rfl)) dX0_data_35 ⟨Nat.zero_le _, Nat.zero_le _⟩) hS (fun _ h => h) (fun H locs hP _ hS => ?_)
        have hP : va_P D vwCl (wB ad ck (pFirst (uN S 0) r z 10) a) H := hP
        refine W.eq (g2 := F0 m 38 ls []) rfl ?_
        refine lv_iconst (v := nI 0) hx hb dX0_data_38 (by decide) ?_
        refine lv_istore_n (lv' := [(3, .int (nI (0))), (0, .ref (ad 0)), (1, .int (nI (r))), (2, .int (nI (z)))]) hx hb dX0_data_39 rfl hl (by decide) rfl (fun ls hl => ?_)
        have loop : ∀ (f k : Nat) (S' : AS), 1024 ≤ f + k → DI S' z k → pRun z f k S' = pData S r z → ∀ (H : Heap) (locs : List Loc), va_P D vwCl (wB ad ck S' a) H → va_S (aB ad) s.heap H locs → ∀ (ls : Array Slot), lv_has ls 4 [(3, .int (nI (k))), (0, .ref (ad 0)), (1, .int (nI (r))), (2, .int (nI (z)))] → W p l e (headSpec wsX0_data ({ frames := 5, cells := 0, slots := 0, locals := 110 })).room s m ([.ref (ad 0), .int (nI (r)), .int (nI (z))] : List Value).toArray below meth c H locs 0 0 (MQ below (QcM (some (.int (aData S (nI r) (nI z)))) (fun H => va_P D vwCl (wB ad ck (pDt S (nI r) (nI z)) (nDt S a (nI r) (nI z))) H) (aB ad)) ([.ref (ad 0), .int (nI (r)), .int (nI (z))] : List Value).toArray s 0 0 (aB ad)) (F0 m 40 ls []) := by
          intro f
          induction f with
          | zero => exact fun k S' h1 hD => absurd hD.2.1 (by have := hD.1.2.2.2.2.1; omega)
          | succ f ih =>
            intro k S' hf hD hR H locs hP hS ls hl
            have hN := hD.1.2.2.2.2.1
            have hkN := hD.2.1
            refine lv_iload_n hx hb dX0_data_40 rfl (lv_at hl 0 rfl) ?_
            refine lv_aload_n hx hb dX0_data_41 rfl (lv_at hl 1 rfl) ?_
            refine va_get (D := D) (ci := 0) (v := .int (nI (sN (S')))) (C := RX0) (T := TX0) (N := 10) hx hb hts hin0 hown hK hP 0 rfl rfl 9 (by decide) (hts (.fieldLink RX0 38 "ClaimBench" "rowLength" "I") (by decide +kernel)) (fun _ h9 => h9) rfl dX0_data_42 ?_
            refine xx_ge (tgt := 72) hx hb dX0_data_45 (by decide) (by omega) (by omega) (fun h4 => ?_) (fun h4 => ?_)
            · skip
              have hE : pData S r z = S' := by rw [← hR, pRun, if_neg (by omega)]
              refine lv_aload_n hx hb dX0_data_72 rfl (lv_at hl 1 rfl) ?_
              refine lv_dup hx hb dX0_data_73 rfl ?_
              refine va_get (D := D) (ci := 0) (v := .int (nI (a))) (C := RX0) (T := TX0) (N := 10) hx hb hts hin0 hown hK hP 0 rfl rfl 3 (by decide) (hts (.fieldLink RX0 19 "ClaimBench" "saidInAll" "I") (by decide +kernel)) (fun _ h9 => h9) rfl dX0_data_74 ?_
              refine lv_aload_n hx hb dX0_data_77 rfl (lv_at hl 1 rfl) ?_
              refine va_get (D := D) (ci := 0) (v := .int (nI (sN (S')))) (C := RX0) (T := TX0) (N := 10) hx hb hts hin0 hown hK hP 0 rfl rfl 9 (by decide) (hts (.fieldLink RX0 38 "ClaimBench" "rowLength" "I") (by decide +kernel)) (fun _ h9 => h9) rfl dX0_data_78 ?_
              refine xx_add hx hb dX0_data_81 ?_
              refine va_put (D := D) (ci := 0) (v := .int (nI (a + (sN (S'))))) (ty := .int) (C := RX0) (T := TX0) (N := 10) hx hb hts hin0 tyX0 tyX0_ok nmX0 hown hK hP (dB hd ck _ _) hS 0 rfl rfl 3 (by decide) (hts (.fieldLink RX0 19 "ClaimBench" "saidInAll" "I") (by decide +kernel)) (fun _ h9 => h9) rfl (by decide +kernel) rfl rfl (Nat.le_of_ble_eq_true rfl) dX0_data_82 (fun H locs hP _ hS => ?_)
              have hP : va_P D vwCl (wB ad ck (S') (a + sN S')) H := hP
              refine lv_aload_n hx hb dX0_data_85 rfl (lv_at hl 1 rfl) ?_
              refine va_get (D := D) (ci := 0) (v := .int (nI (sN (S')))) (C := RX0) (T := TX0) (N := 10) hx hb hts hin0 hown hK hP 0 rfl rfl 9 (by decide) (hts (.fieldLink RX0 38 "ClaimBench" "rowLength" "I") (by decide +kernel)) (fun _ h9 => h9) rfl dX0_data_86 ?_
              exact W.iret (v := (nI (sN (S')))) hx hb hr (fun t ht hW => ⟨ro_i (dt_t (a := a) hr10 hz16 hG hE).1.symm, by rw [ht, (dt_t (a := a) hr10 hz16 hG hE).2.1, (dt_t (a := a) hr10 hz16 hG hE).2.2]; exact hP, hS.F ht⟩) hS.2.2 dX0_data_89
            · skip
              have hk : k < sN S' := h4
              have hrow := hD.2.2.1 k hk
              refine lv_iload_n hx hb dX0_data_48 rfl (lv_at hl 0 rfl) ?_
              refine lv_sipush (v := nI 1023) hx hb dX0_data_49 (by decide) ?_
              refine xx_ge (tgt := 72) hx hb dX0_data_52 (by decide) (by omega) (by omega) (fun h5 => ?_) (fun h5 => ?_)
              · skip
                exact absurd h5 (by omega)
              · skip
                refine lv_aload_n hx hb dX0_data_55 rfl (lv_at hl 1 rfl) ?_
                refine lv_aload_n hx hb dX0_data_56 rfl (lv_at hl 1 rfl) ?_
                refine va_get (D := D) (ci := 0) (v := .ref (ad 5)) (C := RX0) (T := TX0) (N := 10) hx hb hts hin0 hown hK hP 0 rfl rfl 8 (by decide) (hts (.fieldLink RX0 35 "ClaimBench" "row" "[I") (by decide +kernel)) (fun _ h9 => h9) rfl dX0_data_57 ?_
                refine lv_iload_n hx hb dX0_data_60 rfl (lv_at hl 0 rfl) ?_
                refine xx_ald hx hb hK hP 5 4 (fun c_ => nI (sR (S') c_ % 100)) rfl rfl (j := k) (by omega) (by decide) dX0_data_61 ?_
                refine W.eq (g2 := F0 m 62 ls [.int (nI (sR (S') k % 100)), .ref (ad 0)]) rfl ?_
                refine lv_iload_n hx hb dX0_data_62 rfl (lv_at hl 3 rfl) ?_
                refine xx_callM (W.runV (As := [.int (nI (sR (S') k % 100)), .int (nI (z))]) (rest := []) ⟨hx, hb, hml, hown, hts⟩ (c0_hearClaim l D ad hd ck (S') a hD.1 (sR (S') k % 100) z (sR S' k) hrow.1 (by omega) hrow.2.symm rfl (hD.1.2.2.2.2.2 k) (fun q hq => ⟨(hear_inv hz16 hD hk q hq).1, (hear_inv hz16 hD hk q hq).2.1, HI_n (hear_inv hz16 hD hk q hq)⟩)) (cwV 2 hts gX0_data_X0_hearClaim rfl rfl rfl (by decide +kernel) ⟨Nat.le_of_ble_eq_true rfl, Nat.le_of_ble_eq_true rfl⟩) (PW_pre hK hP (ci := 0) rfl rfl) rfl rfl hl.1 rfl (lv_room (Nat.le_of_ble_eq_true rfl)) dX0_data_63 ⟨Nat.zero_le _, Nat.zero_le _⟩) hS (fun _ h => h) (fun H locs hP _ hS => ?_)
                have hP : va_P D vwCl (wB ad ck (pHear S' z (sR S' k) 10) a) H := hP
                refine W.eq (g2 := F0 m 66 ls []) rfl ?_
                refine lv_iinc (v := nI (k + 1)) (lv' := [(3, .int (nI (k + 1))), (0, .ref (ad 0)), (1, .int (nI (r))), (2, .int (nI (z)))]) hx hb dX0_data_66 hl (k := 0) rfl (nI_1 _) (by decide) rfl (fun ls hl => ?_)
                refine lv_goto (tgt := 40) hx hb dX0_data_69 (by decide) ?_
                exact ih (k + 1) (pHear S' z (sR S' k) 10) (by omega) (hear_DI hz16 hD hk) (by rw [← hR, pRun, if_pos hk]) H locs hP hS ls (lv_sub hl [0, 1, 2, 3] rfl)
        exact loop 1024 0 (pFirst (uN S 0) r z 10) (by omega) (first_DI (iv_n0 hi) rfl hz16) rfl H locs hP hS ls (lv_sub hl [0, 1, 2, 3] rfl)
      · skip
        have hG : sG S r = true := by have q9 : (!(sG S r)) = false := h3; simpa using q9
        refine lv_iconst (v := -1) hx hb dX0_data_25 (by decide) ?_
        exact W.iret (v := (-1)) hx hb hr (fun t ht hW => ⟨ro_i (dt_g (a := a) hr10 hz16 hG).1.symm, by rw [ht, (dt_g (a := a) hr10 hz16 hG).2.1, (dt_g (a := a) hr10 hz16 hG).2.2]; exact hP, hS.F ht⟩) hS.2.2 dX0_data_26
set_option maxHeartbeats 4000000 in
set_option maxRecDepth 100000 in
theorem c1_data (l : Launch) (D : va_G) (ad : Nat → Nat) (hd : apt 9 ad) (ck : Nat → ClassId) (S : AS) (a : Nat) (hi : iv S) (x y : Int32) : Met l yX1_data wsX1_data ({ frames := 4, cells := 0, slots := 0, locals := 92 }) (PW D (wM ad ck S a) (tyM ck) [.ref (ad 0), .int (x), .int (y)]) (QcM (some (.int (aData S x y))) (fun H => va_P D vwCl (wM ad ck (pDt S x y) (nDt S a x y)) H) (aM ad)) 0 0 (aM ad) := by
  refine Met.ofW (cc := cX1_data) (maxL := 5) (ret := (some .int)) (by decide) rfl ?_
  intro p e s m args below meth c s₁ B hml hv
  obtain ⟨rfl, hP, hK⟩ := hv
  have hx := B.exec
  have hb := B.bytes
  have hr := B.returns
  have hts := atoms_spec (ws := wsX1_data) B.pre
  have hown : s.vm.findClass RX1 = some m.cls := findClass_of_methodNamed B.named
  have hlocks := B.notSynchronized
  have hin0 : ∀ w ∈ wsX10, w ∈ wsX1_data := by decide +kernel
  have hl := lv_entry ([.ref (ad 0), .int (x), .int (y)]) (n := 5) (Nat.le_of_ble_eq_true rfl)
  rw [lg_entry_eq]
  generalize (lg_sl ([.ref (ad 0), .int (x), .int (y)]) ++ List.replicate (5 - (lg_sl ([.ref (ad 0), .int (x), .int (y)])).length) Slot.unset).toArray = ls at hl ⊢
  have hl : lv_has ls 5 [(0, .ref (ad 0)), (1, .int (x)), (2, .int (y))] := hl
  have hS : va_S (aM ad) s.heap s.heap [] := va_S.rf
  refine lv_iload_n hx hb dX1_data_0 rfl (lv_at hl 1 rfl) ?_
  refine lv_iload_n hx hb dX1_data_1 rfl (lv_at hl 2 rfl) ?_
  refine W.callR (W.runS (As := [.int (x), .int (y)]) (rest := []) ⟨hx, hb, hml, hown, hts⟩ (c1_isPair l ((x)) ((y))) (va_cwS 2 hts gX1_data_X1_isPair rfl rfl rfl (by decide +kernel) ⟨Nat.le_of_ble_eq_true rfl, Nat.le_of_ble_eq_true rfl⟩) preEq rfl rfl hl.1 rfl (lv_room (Nat.le_of_ble_eq_true rfl)) dX1_data_2 ⟨Nat.zero_le _, Nat.zero_le _⟩) ?_
  refine W.eq (g2 := F0 m 5 ls [.int (bI (inR 10 ((x)) && inR 16 ((y))))]) rfl ?_
  refine xx_if0 (tgt := 17) hx hb dX1_data_5 (by decide) (fun h1 => ?_) (fun h1 => ?_)
  · skip
    refine lv_iconst (v := -1) hx hb dX1_data_17 (by decide) ?_
    exact W.iret (v := (-1)) hx hb hr (fun t ht hW => ⟨ro_i (dt_f (a := a) (S := S) (x := x) (y := y) h1).1.symm, by rw [ht, (dt_f (a := a) (S := S) (x := x) (y := y) h1).2.1, (dt_f (a := a) (S := S) (x := x) (y := y) h1).2.2]; exact hP, hS.F ht⟩) hS.2.2 dX1_data_18
  · skip
    obtain ⟨hp1, hp2⟩ := (Bool.and_eq_true _ _).mp h1
    obtain ⟨r, hr10, rfl⟩ := inR_t (by decide) hp1
    obtain ⟨z, hz16, rfl⟩ := inR_t (by decide) hp2
    refine lv_aload_n hx hb dX1_data_8 rfl (lv_at hl 0 rfl) ?_
    refine va_get (D := D) (ci := 1) (v := .ref (ad 1)) (C := RX1) (T := TX1) (N := 11) hx hb hts hin0 hown hK hP 0 rfl rfl 2 (by decide) (hts (.fieldLink RX1 7 "ClaimBenchModel" "isGone" "[Z") (by decide +kernel)) (fun _ h9 => h9) rfl dX1_data_9 ?_
    refine lv_iload_n hx hb dX1_data_12 rfl (lv_at hl 1 rfl) ?_
    refine xx_zld hx hb hK hP 1 0 (fun c_ => bI (sG S c_)) rfl rfl (j := r) (by omega) (by decide) dX1_data_13 ?_
    refine W.eq (g2 := F0 m 14 ls [.int (bI (sG S r))]) rfl ?_
    refine xx_if0 (tgt := 19) hx hb dX1_data_14 (by decide) (fun h2 => ?_) (fun h2 => ?_)
    · skip
      refine lv_aload_n hx hb dX1_data_19 rfl (lv_at hl 0 rfl) ?_
      refine lv_iconst (v := nI 0) hx hb dX1_data_20 (by decide) ?_
      refine va_put (D := D) (ci := 1) (v := .int (nI (0))) (ty := .int) (C := RX1) (T := TX1) (N := 11) hx hb hts hin0 tyX1 tyX1_ok nmX1 hown hK hP (dM hd ck _ _) hS 0 rfl rfl 10 (by decide) (hts (.fieldLink RX1 62 "ClaimBenchModel" "many" "I") (by decide +kernel)) (fun _ h9 => h9) rfl (by decide +kernel) rfl rfl (Nat.le_of_ble_eq_true rfl) dX1_data_21 (fun H locs hP _ hS => ?_)
      have hP : va_P D vwCl (wM ad ck (uN S 0) a) H := hP
      refine lv_iconst (v := nI 0) hx hb dX1_data_24 (by decide) ?_
      refine lv_istore_n (lv' := [(3, .int (nI (0))), (0, .ref (ad 0)), (1, .int (nI (r))), (2, .int (nI (z)))]) hx hb dX1_data_25 rfl hl (by decide) rfl (fun ls hl => ?_)
      have hF := first_inv (iv_n0 hi) rfl (r := r) hz16
      have loop2 : ∀ (f k : Nat) (S' : AS), 1024 ≤ f + k → DI S' z k → pRun z f k S' = pData S r z → ∀ (H : Heap) (locs : List Loc), va_P D vwCl (wM ad ck S' (a + sN S')) H → va_S (aM ad) s.heap H locs → ∀ (ls : Array Slot), lv_has ls 5 [(3, .int (nI (k))), (0, .ref (ad 0)), (1, .int (nI (r))), (2, .int (nI (z)))] → W p l e (headSpec wsX1_data ({ frames := 4, cells := 0, slots := 0, locals := 92 })).room s m ([.ref (ad 0), .int (nI (r)), .int (nI (z))] : List Value).toArray below meth c H locs 0 0 (MQ below (QcM (some (.int (aData S (nI r) (nI z)))) (fun H => va_P D vwCl (wM ad ck (pDt S (nI r) (nI z)) (nDt S a (nI r) (nI z))) H) (aM ad)) ([.ref (ad 0), .int (nI (r)), .int (nI (z))] : List Value).toArray s 0 0 (aM ad)) (F0 m 69 ls []) := by
        intro f
        induction f with
        | zero => exact fun k S' h1 hD => absurd hD.2.1 (by have := hD.1.2.2.2.2.1; omega)
        | succ f ih2 =>
          intro k S' hf hD hR H locs hP hS ls hl
          have hN := hD.1.2.2.2.2.1
          have hkN := hD.2.1
          have hRk := hD.1.2.2.2.2.2 k
          refine lv_iload_n hx hb dX1_data_69 rfl (lv_at hl 0 rfl) ?_
          refine lv_aload_n hx hb dX1_data_70 rfl (lv_at hl 1 rfl) ?_
          refine va_get (D := D) (ci := 1) (v := .int (nI (sN (S')))) (C := RX1) (T := TX1) (N := 11) hx hb hts hin0 hown hK hP 0 rfl rfl 10 (by decide) (hts (.fieldLink RX1 62 "ClaimBenchModel" "many" "I") (by decide +kernel)) (fun _ h9 => h9) rfl dX1_data_71 ?_
          refine xx_ge (tgt := 146) hx hb dX1_data_74 (by decide) (by omega) (by omega) (fun h3 => ?_) (fun h3 => ?_)
          · skip
            have hE : pData S r z = S' := by rw [← hR, pRun, if_neg (by omega)]
            refine lv_aload_n hx hb dX1_data_146 rfl (lv_at hl 1 rfl) ?_
            refine va_get (D := D) (ci := 1) (v := .int (nI (sN (S')))) (C := RX1) (T := TX1) (N := 11) hx hb hts hin0 hown hK hP 0 rfl rfl 10 (by decide) (hts (.fieldLink RX1 62 "ClaimBenchModel" "many" "I") (by decide +kernel)) (fun _ h9 => h9) rfl dX1_data_147 ?_
            exact W.iret (v := (nI (sN (S')))) hx hb hr (fun t ht hW => ⟨ro_i (dt_t (a := a) hr10 hz16 h2 hE).1.symm, by rw [ht, (dt_t (a := a) hr10 hz16 h2 hE).2.1, (dt_t (a := a) hr10 hz16 h2 hE).2.2]; exact hP, hS.F ht⟩) hS.2.2 dX1_data_150
          · skip
            have hk : k < sN S' := h3
            have hrow := hD.2.2.1 k hk
            have hI := hear_inv hz16 hD hk
            refine lv_iconst (v := nI 0) hx hb dX1_data_77 (by decide) ?_
            refine lv_istore (lv' := [(4, .int (nI (0))), (3, .int (nI (k))), (0, .ref (ad 0)), (1, .int (nI (r))), (2, .int (nI (z)))]) hx hb dX1_data_78 hl (by decide) rfl (fun ls hl => ?_)
            have loop3 : ∀ (n q : Nat), 10 < q + n → q ≤ 10 → ∀ (H : Heap) (locs : List Loc), va_P D vwCl (wM ad ck (pHear S' z (sR S' k) q) (a + sN (pHear S' z (sR S' k) q))) H → va_S (aM ad) s.heap H locs → ∀ (ls : Array Slot), lv_has ls 5 [(4, .int (nI (q))), (3, .int (nI (k))), (0, .ref (ad 0)), (1, .int (nI (r))), (2, .int (nI (z)))] → W p l e (headSpec wsX1_data ({ frames := 4, cells := 0, slots := 0, locals := 92 })).room s m ([.ref (ad 0), .int (nI (r)), .int (nI (z))] : List Value).toArray below meth c H locs 0 0 (MQ below (QcM (some (.int (aData S (nI r) (nI z)))) (fun H => va_P D vwCl (wM ad ck (pDt S (nI r) (nI z)) (nDt S a (nI r) (nI z))) H) (aM ad)) ([.ref (ad 0), .int (nI (r)), .int (nI (z))] : List Value).toArray s 0 0 (aM ad)) (F0 m 80 ls []) := by
              intro n
              induction n with
              | zero => exact fun q h1 h2 => absurd h1 (by omega)
              | succ n ih =>
                intro q hq1 hq2 H locs hP hS ls hl
                refine lv_iload hx hb dX1_data_80 (lv_at hl 0 rfl) ?_
                refine lv_bipush (v := nI 10) hx hb dX1_data_82 (by decide) ?_
                refine xx_ge (tgt := 140) hx hb dX1_data_84 (by decide) (by omega) (by omega) (fun h4 => ?_) (fun h4 => ?_)
                · skip
                  refine lv_iinc (v := nI (k + 1)) (lv' := [(3, .int (nI (k + 1))), (4, .int (nI (q))), (0, .ref (ad 0)), (1, .int (nI (r))), (2, .int (nI (z)))]) hx hb dX1_data_140 hl (k := 1) rfl (nI_1 _) (by decide) rfl (fun ls hl => ?_)
                  refine lv_goto (tgt := 69) hx hb dX1_data_143 (by decide) ?_
                  rw [show q = 10 by omega] at hP
                  exact ih2 (k + 1) (pHear S' z (sR S' k) 10) (by omega) (hear_DI hz16 hD hk) (by rw [← hR, pRun, if_pos hk]) H locs hP hS ls (lv_sub hl [0, 2, 3, 4] rfl)
                · skip
                  refine lv_iload hx hb dX1_data_87 (lv_at hl 0 rfl) ?_
                  refine lv_aload_n hx hb dX1_data_89 rfl (lv_at hl 2 rfl) ?_
                  refine va_get (D := D) (ci := 1) (v := .ref (ad 8)) (C := RX1) (T := TX1) (N := 11) hx hb hts hin0 hown hK hP 0 rfl rfl 9 (by decide) (hts (.fieldLink RX1 32 "ClaimBenchModel" "row" "[I") (by decide +kernel)) (fun _ h9 => h9) rfl dX1_data_90 ?_
                  refine lv_iload_n hx hb dX1_data_93 rfl (lv_at hl 1 rfl) ?_
                  refine xx_ald hx hb hK hP 8 7 (fun c_ => nI (sR (pHear S' z (sR S' k) q) c_)) rfl rfl (j := k) (by omega) (by decide) dX1_data_94 ?_
                  refine W.eq (g2 := F0 m 95 ls [.int (nI (sR (pHear S' z (sR S' k) q) k)), .int (nI (q))]) rfl ?_
                  refine xx_top (nI (sR S' k)) (congrArg nI (hI q hq2).2.2.2.2.1) ?_
                  refine lv_bipush (v := nI 100) hx hb dX1_data_95 (by decide) ?_
                  refine xx_rem hx hb dX1_data_97 (by omega) (by decide) (by decide) ?_
                  refine xx_eq (tgt := 134) hx hb dX1_data_98 (by decide) (by omega) (by omega) (fun h5 => ?_) (fun h5 => ?_)
                  · skip
                    refine lv_iinc (v := nI (q + 1)) (lv' := [(4, .int (nI (q + 1))), (3, .int (nI (k))), (0, .ref (ad 0)), (1, .int (nI (r))), (2, .int (nI (z)))]) hx hb dX1_data_134 hl (k := 0) rfl (nI_1 _) (by decide) rfl (fun ls hl => ?_)
                    refine lv_goto (tgt := 80) hx hb dX1_data_137 (by decide) ?_
                    have hP : va_P D vwCl (wM ad ck (pHear S' z (sR S' k) (q + 1)) (a + sN (pHear S' z (sR S' k) (q + 1)))) H := by rw [pHear, h1_no1 h5]; exact hP
                    exact ih (q + 1) (by omega) (by omega) H locs hP hS ls (lv_sub hl [0, 1, 2, 3, 4] rfl)
                  · skip
                    refine lv_aload_n hx hb dX1_data_101 rfl (lv_at hl 2 rfl) ?_
                    refine va_get (D := D) (ci := 1) (v := .ref (ad 1)) (C := RX1) (T := TX1) (N := 11) hx hb hts hin0 hown hK hP 0 rfl rfl 2 (by decide) (hts (.fieldLink RX1 7 "ClaimBenchModel" "isGone" "[Z") (by decide +kernel)) (fun _ h9 => h9) rfl dX1_data_102 ?_
                    refine lv_iload hx hb dX1_data_105 (lv_at hl 0 rfl) ?_
                    refine xx_zld hx hb hK hP 1 0 (fun c_ => bI (sG (pHear S' z (sR S' k) q) c_)) rfl rfl (j := q) (by omega) (by decide) dX1_data_107 ?_
                    refine W.eq (g2 := F0 m 108 ls [.int (bI (sG (pHear S' z (sR S' k) q) q))]) rfl ?_
                    refine xx_if1 (tgt := 134) hx hb dX1_data_108 (by decide) (fun h6 => ?_) (fun h6 => ?_)
                    · skip
                      refine lv_iinc (v := nI (q + 1)) (lv' := [(4, .int (nI (q + 1))), (3, .int (nI (k))), (0, .ref (ad 0)), (1, .int (nI (r))), (2, .int (nI (z)))]) hx hb dX1_data_134 hl (k := 0) rfl (nI_1 _) (by decide) rfl (fun ls hl => ?_)
                      refine lv_goto (tgt := 80) hx hb dX1_data_137 (by decide) ?_
                      have hP : va_P D vwCl (wM ad ck (pHear S' z (sR S' k) (q + 1)) (a + sN (pHear S' z (sR S' k) (q + 1)))) H := by rw [pHear, h1_no2 (pH_g h6)]; exact hP
                      exact ih (q + 1) (by omega) (by omega) H locs hP hS ls (lv_sub hl [0, 1, 2, 3, 4] rfl)
                    · skip
                      refine lv_aload_n hx hb dX1_data_111 rfl (lv_at hl 2 rfl) ?_
                      refine va_get (D := D) (ci := 1) (v := .ref (ad 2)) (C := RX1) (T := TX1) (N := 11) hx hb hts hin0 hown hK hP 0 rfl rfl 3 (by decide) (hts (.fieldLink RX1 13 "ClaimBenchModel" "isDeaf" "[Z") (by decide +kernel)) (fun _ h9 => h9) rfl dX1_data_112 ?_
                      refine lv_iload hx hb dX1_data_115 (lv_at hl 0 rfl) ?_
                      refine xx_zld hx hb hK hP 2 1 (fun c_ => bI (sD (pHear S' z (sR S' k) q) c_)) rfl rfl (j := q) (by omega) (by decide) dX1_data_117 ?_
                      refine W.eq (g2 := F0 m 118 ls [.int (bI (sD (pHear S' z (sR S' k) q) q))]) rfl ?_
                      refine xx_if1 (tgt := 134) hx hb dX1_data_118 (by decide) (fun h7 => ?_) (fun h7 => ?_)
                      · skip
                        refine lv_iinc (v := nI (q + 1)) (lv' := [(4, .int (nI (q + 1))), (3, .int (nI (k))), (0, .ref (ad 0)), (1, .int (nI (r))), (2, .int (nI (z)))]) hx hb dX1_data_134 hl (k := 0) rfl (nI_1 _) (by decide) rfl (fun ls hl => ?_)
                        refine lv_goto (tgt := 80) hx hb dX1_data_137 (by decide) ?_
                        have hP : va_P D vwCl (wM ad ck (pHear S' z (sR S' k) (q + 1)) (a + sN (pHear S' z (sR S' k) (q + 1)))) H := by rw [pHear, h1_no2 (pH_d h7)]; exact hP
                        exact ih (q + 1) (by omega) (by omega) H locs hP hS ls (lv_sub hl [0, 1, 2, 3, 4] rfl)
                      · skip
                        refine lv_aload_n hx hb dX1_data_121 rfl (lv_at hl 2 rfl) ?_
                        refine lv_iload hx hb dX1_data_122 (lv_at hl 0 rfl) ?_
                        refine lv_iload_n hx hb dX1_data_124 rfl (lv_at hl 4 rfl) ?_
                        refine lv_aload_n hx hb dX1_data_125 rfl (lv_at hl 2 rfl) ?_
                        refine va_get (D := D) (ci := 1) (v := .ref (ad 8)) (C := RX1) (T := TX1) (N := 11) hx hb hts hin0 hown hK hP 0 rfl rfl 9 (by decide) (hts (.fieldLink RX1 32 "ClaimBenchModel" "row" "[I") (by decide +kernel)) (fun _ h9 => h9) rfl dX1_data_126 ?_
                        refine lv_iload_n hx hb dX1_data_129 rfl (lv_at hl 1 rfl) ?_
                        refine xx_ald hx hb hK hP 8 7 (fun c_ => nI (sR (pHear S' z (sR S' k) q) c_)) rfl rfl (j := k) (by omega) (by decide) dX1_data_130 ?_
                        refine W.eq (g2 := F0 m 131 ls [.int (nI (sR (pHear S' z (sR S' k) q) k)), .int (nI (z)), .int (nI (q)), .ref (ad 0)]) rfl ?_
                        refine xx_top (nI (sR S' k)) (congrArg nI (hI q hq2).2.2.2.2.1) ?_
                        refine xx_callM (W.runV (As := [.int (nI (q)), .int (nI (z)), .int (nI (sR S' k))]) (rest := []) ⟨hx, hb, hml, hown, hts⟩ (c1_hear l D ad hd ck (pHear S' z (sR S' k) q) a (hI q hq2).1 q z (sR S' k) (by omega) (by omega) (hD.1.2.2.2.2.2 k) hrow.1 (fun hb9 => HI_n (hI q hq2) (by omega) (by rw [← (hI q hq2).2.1 (16 * q + z)]; exact hb9))) (cwV 3 hts gX1_data_X1_hear rfl rfl rfl (by decide +kernel) ⟨Nat.le_of_ble_eq_true rfl, Nat.le_of_ble_eq_true rfl⟩) (PW_pre hK hP (ci := 1) rfl rfl) rfl rfl hl.1 rfl (lv_room (Nat.le_of_ble_eq_true rfl)) dX1_data_131 ⟨Nat.zero_le _, Nat.zero_le _⟩) hS (fun _ h => h) (fun H locs hP _ hS => ?_)
                        have hP : va_P D vwCl (wM ad ck (pH2 (pKeep (pHear S' z (sR S' k) q) (16 * q + z) (sR S' k)) z (sR S' k) q) (a + sN (pH2 (pKeep (pHear S' z (sR S' k) q) (16 * q + z) (sR S' k)) z (sR S' k) q))) H := hP
                        refine W.eq (g2 := F0 m 134 ls []) rfl ?_
                        refine lv_iinc (v := nI (q + 1)) (lv' := [(4, .int (nI (q + 1))), (3, .int (nI (k))), (0, .ref (ad 0)), (1, .int (nI (r))), (2, .int (nI (z)))]) hx hb dX1_data_134 hl (k := 0) rfl (nI_1 _) (by decide) rfl (fun ls hl => ?_)
                        refine lv_goto (tgt := 80) hx hb dX1_data_137 (by decide) ?_
                        have hP : va_P D vwCl (wM ad ck (pHear S' z (sR S' k) (q + 1)) (a + sN (pHear S' z (sR S' k) (q + 1)))) H := by rw [pHear, h1_go h5 (pH_t h6 h7)]; exact hP
                        exact ih (q + 1) (by omega) (by omega) H locs hP hS ls (lv_sub hl [0, 1, 2, 3, 4] rfl)
            exact loop3 11 0 (by omega) (by omega) H locs hP hS ls (lv_sub hl [0, 1, 2, 3, 4] rfl)
      have loop1 : ∀ (n q : Nat), 10 < q + n → q ≤ 10 → ∀ (H : Heap) (locs : List Loc), va_P D vwCl (wM ad ck (pFirst (uN S 0) r z q) (a + sN (pFirst (uN S 0) r z q))) H → va_S (aM ad) s.heap H locs → ∀ (ls : Array Slot), lv_has ls 5 [(3, .int (nI (q))), (0, .ref (ad 0)), (1, .int (nI (r))), (2, .int (nI (z)))] → W p l e (headSpec wsX1_data ({ frames := 4, cells := 0, slots := 0, locals := 92 })).room s m ([.ref (ad 0), .int (nI (r)), .int (nI (z))] : List Value).toArray below meth c H locs 0 0 (MQ below (QcM (some (.int (aData S (nI r) (nI z)))) (fun H => va_P D vwCl (wM ad ck (pDt S (nI r) (nI z)) (nDt S a (nI r) (nI z))) H) (aM ad)) ([.ref (ad 0), .int (nI (r)), .int (nI (z))] : List Value).toArray s 0 0 (aM ad)) (F0 m 26 ls []) := by
        intro n
        induction n with
        | zero => exact fun q h1 h2 => absurd h1 (by omega)
        | succ n ih =>
          intro q hq1 hq2 H locs hP hS ls hl
          refine lv_iload_n hx hb dX1_data_26 rfl (lv_at hl 0 rfl) ?_
          refine lv_bipush (v := nI 10) hx hb dX1_data_27 (by decide) ?_
          refine xx_ge (tgt := 67) hx hb dX1_data_29 (by decide) (by omega) (by omega) (fun h8 => ?_) (fun h8 => ?_)
          · skip
            refine lv_iconst (v := nI 0) hx hb dX1_data_67 (by decide) ?_
            refine lv_istore_n (lv' := [(3, .int (nI (0))), (0, .ref (ad 0)), (1, .int (nI (r))), (2, .int (nI (z)))]) hx hb dX1_data_68 rfl hl (by decide) rfl (fun ls hl => ?_)
            rw [show q = 10 by omega] at hP
            exact loop2 1024 0 (pFirst (uN S 0) r z 10) (by omega) (first_DI (iv_n0 hi) rfl hz16) rfl H locs hP hS ls (lv_sub hl [0, 1, 2, 3] rfl)
          · skip
            refine lv_iload_n hx hb dX1_data_32 rfl (lv_at hl 0 rfl) ?_
            refine lv_iload_n hx hb dX1_data_33 rfl (lv_at hl 2 rfl) ?_
            refine xx_eq (tgt := 61) hx hb dX1_data_34 (by decide) (by omega) (by omega) (fun h9 => ?_) (fun h9 => ?_)
            · skip
              refine lv_iinc (v := nI (q + 1)) (lv' := [(3, .int (nI (q + 1))), (0, .ref (ad 0)), (1, .int (nI (r))), (2, .int (nI (z)))]) hx hb dX1_data_61 hl (k := 0) rfl (nI_1 _) (by decide) rfl (fun ls hl => ?_)
              refine lv_goto (tgt := 26) hx hb dX1_data_64 (by decide) ?_
              have hP : va_P D vwCl (wM ad ck (pFirst (uN S 0) r z (q + 1)) (a + sN (pFirst (uN S 0) r z (q + 1)))) H := by rw [pFirst, f1_no1 h9]; exact hP
              exact ih (q + 1) (by omega) (by omega) H locs hP hS ls (lv_sub hl [0, 1, 2, 3] rfl)
            · skip
              refine lv_aload_n hx hb dX1_data_37 rfl (lv_at hl 1 rfl) ?_
              refine va_get (D := D) (ci := 1) (v := .ref (ad 2)) (C := RX1) (T := TX1) (N := 11) hx hb hts hin0 hown hK hP 0 rfl rfl 3 (by decide) (hts (.fieldLink RX1 13 "ClaimBenchModel" "isDeaf" "[Z") (by decide +kernel)) (fun _ h9 => h9) rfl dX1_data_38 ?_
              refine lv_iload_n hx hb dX1_data_41 rfl (lv_at hl 0 rfl) ?_
              refine xx_zld hx hb hK hP 2 1 (fun c_ => bI (sD (pFirst (uN S 0) r z q) c_)) rfl rfl (j := q) (by omega) (by decide) dX1_data_42 ?_
              refine W.eq (g2 := F0 m 43 ls [.int (bI (sD (pFirst (uN S 0) r z q) q))]) rfl ?_
              refine xx_if1 (tgt := 61) hx hb dX1_data_43 (by decide) (fun h10 => ?_) (fun h10 => ?_)
              · skip
                refine lv_iinc (v := nI (q + 1)) (lv' := [(3, .int (nI (q + 1))), (0, .ref (ad 0)), (1, .int (nI (r))), (2, .int (nI (z)))]) hx hb dX1_data_61 hl (k := 0) rfl (nI_1 _) (by decide) rfl (fun ls hl => ?_)
                refine lv_goto (tgt := 26) hx hb dX1_data_64 (by decide) ?_
                have hP : va_P D vwCl (wM ad ck (pFirst (uN S 0) r z (q + 1)) (a + sN (pFirst (uN S 0) r z (q + 1)))) H := by rw [pFirst, f1_no2 (pH_d h10)]; exact hP
                exact ih (q + 1) (by omega) (by omega) H locs hP hS ls (lv_sub hl [0, 1, 2, 3] rfl)
              · skip
                refine lv_aload_n hx hb dX1_data_46 rfl (lv_at hl 1 rfl) ?_
                refine lv_iload_n hx hb dX1_data_47 rfl (lv_at hl 0 rfl) ?_
                refine lv_iload_n hx hb dX1_data_48 rfl (lv_at hl 3 rfl) ?_
                refine W.callR (W.runV (As := [.int (nI (q)), .int (nI (z))]) (rest := []) ⟨hx, hb, hml, hown, hts⟩ (c1_isSending l D ad ck (pFirst (uN S 0) r z q) (a + sN (pFirst (uN S 0) r z q)) (hF q hq2).1 q z (by omega) (by omega)) (cwV 2 hts gX1_data_X1_isSending rfl rfl rfl (by decide +kernel) ⟨Nat.le_of_ble_eq_true rfl, Nat.le_of_ble_eq_true rfl⟩) (PW_pre hK hP (ci := 1) rfl rfl) rfl rfl hl.1 rfl (lv_room (Nat.le_of_ble_eq_true rfl)) dX1_data_49 ⟨Nat.zero_le _, Nat.zero_le _⟩) ?_
                refine W.eq (g2 := F0 m 52 ls [.int (bI (pS (pFirst (uN S 0) r z q) q z))]) rfl ?_
                refine xx_if0 (tgt := 61) hx hb dX1_data_52 (by decide) (fun h11 => ?_) (fun h11 => ?_)
                · skip
                  refine lv_iinc (v := nI (q + 1)) (lv' := [(3, .int (nI (q + 1))), (0, .ref (ad 0)), (1, .int (nI (r))), (2, .int (nI (z)))]) hx hb dX1_data_61 hl (k := 0) rfl (nI_1 _) (by decide) rfl (fun ls hl => ?_)
                  refine lv_goto (tgt := 26) hx hb dX1_data_64 (by decide) ?_
                  have hP : va_P D vwCl (wM ad ck (pFirst (uN S 0) r z (q + 1)) (a + sN (pFirst (uN S 0) r z (q + 1)))) H := by rw [pFirst, f1_no3 h11]; exact hP
                  exact ih (q + 1) (by omega) (by omega) H locs hP hS ls (lv_sub hl [0, 1, 2, 3] rfl)
                · skip
                  refine lv_aload_n hx hb dX1_data_55 rfl (lv_at hl 1 rfl) ?_
                  refine lv_iload_n hx hb dX1_data_56 rfl (lv_at hl 0 rfl) ?_
                  refine lv_iload_n hx hb dX1_data_57 rfl (lv_at hl 3 rfl) ?_
                  refine xx_callM (W.runV (As := [.int (nI (q)), .int (nI (z))]) (rest := []) ⟨hx, hb, hml, hown, hts⟩ (c1_say l D ad hd ck (pFirst (uN S 0) r z q) (a + sN (pFirst (uN S 0) r z q)) (hF q hq2).1 q z (by omega) (by omega) (by have := (hF q hq2).2.2.1; omega)) (cwV 2 hts gX1_data_X1_say rfl rfl rfl (by decide +kernel) ⟨Nat.le_of_ble_eq_true rfl, Nat.le_of_ble_eq_true rfl⟩) (PW_pre hK hP (ci := 1) rfl rfl) rfl rfl hl.1 rfl (lv_room (Nat.le_of_ble_eq_true rfl)) dX1_data_58 ⟨Nat.zero_le _, Nat.zero_le _⟩) hS (fun _ h => h) (fun H locs hP _ hS => ?_)
                  have hP : va_P D vwCl (wM ad ck (pSay (pFirst (uN S 0) r z q) (pO (pFirst (uN S 0) r z q) (16 * q + z))) ((a + sN (pFirst (uN S 0) r z q)) + 1)) H := hP
                  refine W.eq (g2 := F0 m 61 ls []) rfl ?_
                  refine lv_iinc (v := nI (q + 1)) (lv' := [(3, .int (nI (q + 1))), (0, .ref (ad 0)), (1, .int (nI (r))), (2, .int (nI (z)))]) hx hb dX1_data_61 hl (k := 0) rfl (nI_1 _) (by decide) rfl (fun ls hl => ?_)
                  refine lv_goto (tgt := 26) hx hb dX1_data_64 (by decide) ?_
                  have hP : va_P D vwCl (wM ad ck (pFirst (uN S 0) r z (q + 1)) (a + sN (pFirst (uN S 0) r z (q + 1)))) H := by rw [pFirst, f1_go h9 (pH_t (pS_g h11) h10) h11]; exact hP
                  exact ih (q + 1) (by omega) (by omega) H locs hP hS ls (lv_sub hl [0, 1, 2, 3] rfl)
      exact loop1 11 0 (by omega) (by omega) H locs hP hS ls (lv_sub hl [0, 1, 2, 3] rfl)
    · skip
      refine lv_iconst (v := -1) hx hb dX1_data_17 (by decide) ?_
      exact W.iret (v := (-1)) hx hb hr (fun t ht hW => ⟨ro_i (dt_g (a := a) hr10 hz16 h2).1.symm, by rw [ht, (dt_g (a := a) hr10 hz16 h2).2.1, (dt_g (a := a) hr10 hz16 h2).2.2]; exact hP, hS.F ht⟩) hS.2.2 dX1_data_18
end
section
/-- as at first -/
def S0 : AS := (0, fun _ => false, fun _ => false, fun _ _ => false, fun _ => false, fun _ => 0, fun _ => 0, fun _ => 0, fun _ => 0, 0)
theorem iv_S0 : iv S0 := ⟨by decide, fun _ => Nat.zero_le _, fun _ => ⟨(by decide : 0 % 100 < 10), Nat.zero_le _⟩, fun _ => Nat.zero_le _, Nat.zero_le _, fun _ => Nat.zero_le _⟩
def adB (a b c d e f : Nat) : Nat → Nat := fun i => match i with
  | 0 => a
  | 1 => b
  | 2 => c
  | 3 => d
  | 4 => e
  | _ => f
def ckB (b c d e f : ClassId) : Nat → ClassId := fun i => match i with
  | 1 => b
  | 2 => c
  | 3 => d
  | 4 => e
  | _ => f
def adM (a b c d e f g h k : Nat) : Nat → Nat := fun i => match i with
  | 0 => a
  | 1 => b
  | 2 => c
  | 3 => d
  | 4 => e
  | 5 => f
  | 6 => g
  | 7 => h
  | _ => k
def ckM (b c d e f g h k : ClassId) : Nat → ClassId := fun i => match i with
  | 1 => b
  | 2 => c
  | 3 => d
  | 4 => e
  | 5 => f
  | 6 => g
  | 7 => h
  | _ => k
theorem arrV_ext {cI : ClassId} {n : Nat} {f g : Nat → Value} (h : ∀ j, j < n → f j = g j) : arrV cI n f = arrV cI n g := by
  unfold arrV
  congr 1
  apply Array.ext
  · simp
  · intro i h1 h2
    simp at h1
    simp [h i h1]
theorem va_Pext {D : va_G} {cl : List vw_C} {ws : va_W} {H : Heap} (hP : va_P D cl ws H) (k : Nat) {a : Nat} {cA : ClassId} {n : Nat} {g : Nat → Int32} (g' : Nat → Int32) (hk : ws[k]? = some (a, .inl (cA, n, .inl g))) (he : ∀ j, j < n → g j = g' j) : va_P D cl (ws.set k (a, .inl (cA, n, .inl g'))) H := by
  intro i q hi
  rw [List.getElem?_set] at hi
  split at hi
  · split at hi
    · cases hi
      have h := hP k _ hk
      show H[a]? = some (vp_cell cA (n, .inl g'))
      have h2 : H[a]? = some (vp_cell cA (n, .inl g)) := h
      rw [h2]
      congr 1
      show arrV cA n (fun j => .int (g j)) = arrV cA n (fun j => .int (g' j))
      exact arrV_ext (fun j hj => by rw [he j hj])
    · cases hi
  · exact hP i q hi
theorem z_1 : bm (fun r => !(sG S0 r)) = 1023 := by decide
theorem z_2 : bm (sD S0) = 0 := by decide
theorem z_3 : (fun c => nI (bm (fun r => sF S0 r c))) = (fun _ => 0) := by
  have h : bm (fun _ => false) = 0 := by decide
  funext c
  show nI (bm (fun _ => false)) = 0
  rw [h]
  rfl
theorem wB_0 (h0 q1 q2 q3 q4 q5 : Nat) (k1 k2 k3 k4 k5 : ClassId) : wB (adB h0 q1 q2 q3 q4 q5) (ckB k1 k2 k3 k4 k5) S0 0 = [(h0, .inr (0, [.int (nI 0), .int (nI 1023), .int (nI 0), .int (nI 0), .ref q1, .ref q2, .ref q3, .ref q4, .ref q5, .int (nI 0)])), (q1, .inl (k1, 16, .inl (fun _ => 0))), (q2, .inl (k2, 160, .inl (fun c => nI (pO S0 c)))), (q3, .inl (k3, 160, .inl (fun _ => 0))), (q4, .inl (k4, 160, .inl (fun _ => 0))), (q5, .inl (k5, 1023, .inl (fun _ => 0)))] := by
  unfold wB
  rw [z_1, z_2, z_3]
  rfl
theorem wM_0 (h0 q1 q2 q3 q4 q5 q6 q7 q8 : Nat) (k1 k2 k3 k4 k5 k6 k7 k8 : ClassId) : wM (adM h0 q1 q2 q3 q4 q5 q6 q7 q8) (ckM k1 k2 k3 k4 k5 k6 k7 k8) S0 0 = [(h0, .inr (1, [.int 0, .int 0, .ref q1, .ref q2, .ref q3, .ref q4, .ref q5, .ref q6, .ref q7, .ref q8, .int 0])), (q1, .inl (k1, 10, .inl (fun _ => 0))), (q2, .inl (k2, 10, .inl (fun _ => 0))), (q3, .inl (k3, 160, .inl (fun _ => 0))), (q4, .inl (k4, 160, .inl (fun _ => 0))), (q5, .inl (k5, 160, .inl (fun _ => 0))), (q6, .inl (k6, 160, .inl (fun c => kM S0 c))), (q7, .inl (k7, 160, .inl (fun _ => 0))), (q8, .inl (k8, 1024, .inl (fun _ => 0)))] := rfl
set_option maxHeartbeats 1000000 in
set_option maxRecDepth 100000 in
theorem c0_init (l : Launch) (D : va_G) (h0 sz : Nat) : Met l yX0_init wsX0_init ({ frames := 1, cells := 5, slots := 1519, locals := 22 }) (va_Pc [.ref h0] (fun U => U.heap.size = sz ∧ va_P D vwCl [(h0, .inr (0, [.int 0, .int 0, .int 0, .int 0, .null, .null, .null, .null, .null, .int 0]))] U.heap ∧ va_K D vwCl [] U ∧ va_D (fun _ => True) [(h0, .inr (0, [.int 0, .int 0, .int 0, .int 0, .null, .null, .null, .null, .null, .int 0]))])) (va_Qv (fun _ : (Nat → Nat) × (Nat → ClassId) => True) (fun u t => u.1 0 = h0 ∧ va_P D vwCl (wB u.1 u.2 S0 0) t.heap ∧ va_K D vwCl (tyB u.2) t ∧ va_D (va_A [(h0, .inr (0, [.int 0, .int 0, .int 0, .int 0, .null, .null, .null, .null, .null, .int 0]))] sz) (wB u.1 u.2 S0 0)) (va_A [(h0, .inr (0, [.int 0, .int 0, .int 0, .int 0, .null, .null, .null, .null, .null, .int 0]))] sz)) 5 1519 (va_A [(h0, .inr (0, [.int 0, .int 0, .int 0, .int 0, .null, .null, .null, .null, .null, .int 0]))] sz) := by
  refine Met.ofW (cc := cX0_init) (maxL := 3) (ret := none) (by decide) rfl ?_
  intro p e s m args below meth c s₁ B hml hv
  obtain ⟨rfl, hsz, hP, hK, hD0⟩ := hv
  have hx := B.exec
  have hb := B.bytes
  have hr := B.returns
  have hts := atoms_spec (ws := wsX0_init) B.pre
  have hown : s.vm.findClass RX0 = some m.cls := findClass_of_methodNamed B.named
  have hlocks := B.notSynchronized
  have hin : meth.name = "<init>" := (name_of_methodNamed B.named B.method).1
  have hin0 : ∀ w ∈ wsX00, w ∈ wsX0_init := by decide +kernel
  subst hsz
  have hD := hD0.self (sz := s.heap.size)
  generalize hAe : va_A [(h0, .inr (0, [.int 0, .int 0, .int 0, .int 0, .null, .null, .null, .null, .null, .int 0]))] s.heap.size = A at hD ⊢
  have hA : ∀ q : Nat, s.heap.size ≤ q → A q := fun q h => by rw [← hAe]; exact Or.inr h
  have hS : va_S A s.heap s.heap [] := va_S.rf
  have hl := lv_entry ([.ref h0]) (n := 3) (Nat.le_of_ble_eq_true rfl)
  rw [lg_entry_eq]
  generalize (lg_sl ([.ref h0]) ++ List.replicate (3 - (lg_sl ([.ref h0])).length) Slot.unset).toArray = ls at hl ⊢
  have hl : lv_has ls 3 [(0, .ref h0)] := hl
  refine lv_aload_n hx hb dX0_init_0 rfl (lv_at hl 0 rfl) ?_
  refine W.objInit hx hb hown (hts (.methodLink RX0 1 objectInit) (by decide +kernel)) (hts (.instanceMethod objectInit) (by decide +kernel)) (hts _ (List.mem_cons_of_mem _ (List.mem_append_left _ (List.mem_of_getElem? (i := 2) rfl)))) rfl (by rw [hml]; exact hl.1) rfl dX0_init_1 (Nat.le_of_ble_eq_true rfl) (Nat.le_of_ble_eq_true rfl) ?_
  refine W.eq (g2 := F0 m 4 ls []) rfl ?_
  refine lv_aload_n hx hb dX0_init_4 rfl (lv_at hl 0 rfl) ?_
  refine lv_iconst (v := nI 0) hx hb dX0_init_5 (by decide) ?_
  refine va_put (D := D) (ci := 0) (v := .int (nI 0)) (ty := .int) (C := RX0) (T := TX0) (N := 10) hx hb hts hin0 tyX0 tyX0_ok nmX0 hown hK hP hD hS 0 rfl rfl 0 (by decide) (hts (.fieldLink RX0 7 "ClaimBench" "time" "I") (by decide +kernel)) (fun _ h9 => h9) rfl (by decide +kernel) rfl rfl (Nat.le_of_ble_eq_true rfl) dX0_init_6 (fun H locs hP hD hS => ?_)
  have hP : va_P D vwCl [(h0, .inr (0, [.int (nI 0), .int 0, .int 0, .int 0, .null, .null, .null, .null, .null, .int 0]))] H := hP
  have hD : va_D A [(h0, .inr (0, [.int (nI 0), .int 0, .int 0, .int 0, .null, .null, .null, .null, .null, .int 0]))] := hD
  refine lv_aload_n hx hb dX0_init_9 rfl (lv_at hl 0 rfl) ?_
  refine lv_sipush (v := nI 1023) hx hb dX0_init_10 (by decide) ?_
  refine va_put (D := D) (ci := 0) (v := .int (nI 1023)) (ty := .int) (C := RX0) (T := TX0) (N := 10) hx hb hts hin0 tyX0 tyX0_ok nmX0 hown hK hP hD hS 0 rfl rfl 1 (by decide) (hts (.fieldLink RX0 13 "ClaimBench" "thereBits" "I") (by decide +kernel)) (fun _ h9 => h9) rfl (by decide +kernel) rfl rfl (Nat.le_of_ble_eq_true rfl) dX0_init_13 (fun H locs hP hD hS => ?_)
  have hP : va_P D vwCl [(h0, .inr (0, [.int (nI 0), .int (nI 1023), .int 0, .int 0, .null, .null, .null, .null, .null, .int 0]))] H := hP
  have hD : va_D A [(h0, .inr (0, [.int (nI 0), .int (nI 1023), .int 0, .int 0, .null, .null, .null, .null, .null, .int 0]))] := hD
  refine lv_aload_n hx hb dX0_init_16 rfl (lv_at hl 0 rfl) ?_
  refine lv_iconst (v := nI 0) hx hb dX0_init_17 (by decide) ?_
  refine va_put (D := D) (ci := 0) (v := .int (nI 0)) (ty := .int) (C := RX0) (T := TX0) (N := 10) hx hb hts hin0 tyX0 tyX0_ok nmX0 hown hK hP hD hS 0 rfl rfl 2 (by decide) (hts (.fieldLink RX0 16 "ClaimBench" "deafBits" "I") (by decide +kernel)) (fun _ h9 => h9) rfl (by decide +kernel) rfl rfl (Nat.le_of_ble_eq_true rfl) dX0_init_18 (fun H locs hP hD hS => ?_)
  have hP : va_P D vwCl [(h0, .inr (0, [.int (nI 0), .int (nI 1023), .int (nI 0), .int 0, .null, .null, .null, .null, .null, .int 0]))] H := hP
  have hD : va_D A [(h0, .inr (0, [.int (nI 0), .int (nI 1023), .int (nI 0), .int 0, .null, .null, .null, .null, .null, .int 0]))] := hD
  refine lv_aload_n hx hb dX0_init_21 rfl (lv_at hl 0 rfl) ?_
  refine lv_iconst (v := nI 0) hx hb dX0_init_22 (by decide) ?_
  refine va_put (D := D) (ci := 0) (v := .int (nI 0)) (ty := .int) (C := RX0) (T := TX0) (N := 10) hx hb hts hin0 tyX0 tyX0_ok nmX0 hown hK hP hD hS 0 rfl rfl 3 (by decide) (hts (.fieldLink RX0 19 "ClaimBench" "saidInAll" "I") (by decide +kernel)) (fun _ h9 => h9) rfl (by decide +kernel) rfl rfl (Nat.le_of_ble_eq_true rfl) dX0_init_23 (fun H locs hP hD hS => ?_)
  have hP : va_P D vwCl [(h0, .inr (0, [.int (nI 0), .int (nI 1023), .int (nI 0), .int (nI 0), .null, .null, .null, .null, .null, .int 0]))] H := hP
  have hD : va_D A [(h0, .inr (0, [.int (nI 0), .int (nI 1023), .int (nI 0), .int (nI 0), .null, .null, .null, .null, .null, .int 0]))] := hD
  refine lv_aload_n hx hb dX0_init_26 rfl (lv_at hl 0 rfl) ?_
  refine lv_bipush (v := nI 16) hx hb dX0_init_27 (by decide) ?_
  refine va_newa (atype := .int) (n := nI 16) (a0 := (16, .inl (fun _ => 0))) (N' := 16) hx hb (hts (.arrayClass .int) (by decide +kernel)) (ty := .int) rfl hK hP hD hS hA (fun _ => rfl) (by decide) (by decide) (by decide) (show 0 + 1 ≤ 5 by omega) (show 0 + 16 ≤ 1519 by omega) dX0_init_29 (fun q1 k1 H hK hP hD hS => ?_)
  have hK : va_K D vwCl [(k1, .int)] s := hK
  have hP : va_P D vwCl [(h0, .inr (0, [.int (nI 0), .int (nI 1023), .int (nI 0), .int (nI 0), .null, .null, .null, .null, .null, .int 0])), (q1, .inl (k1, 16, .inl (fun _ => 0)))] H := hP
  have hD : va_D A [(h0, .inr (0, [.int (nI 0), .int (nI 1023), .int (nI 0), .int (nI 0), .null, .null, .null, .null, .null, .int 0])), (q1, .inl (k1, 16, .inl (fun _ => 0)))] := hD
  refine va_putF (D := D) (ci := 0) (v := .ref q1) (ty := .array .int) (C := RX0) (T := TX0) (N := 10) hx hb hts hin0 tyX0 tyX0_ok nmX0 hown hK hP hD hS 0 rfl rfl 4 (by decide) (hts (.fieldLink RX0 22 "ClaimBench" "forwardBits" "[I") (by decide +kernel)) (fun _ h9 => h9) rfl hin rfl (by decide +kernel) rfl rfl (Nat.le_of_ble_eq_true rfl) dX0_init_31 (fun H locs hP hD hS => ?_)
  have hP : va_P D vwCl [(h0, .inr (0, [.int (nI 0), .int (nI 1023), .int (nI 0), .int (nI 0), .ref q1, .null, .null, .null, .null, .int 0])), (q1, .inl (k1, 16, .inl (fun _ => 0)))] H := hP
  have hD : va_D A [(h0, .inr (0, [.int (nI 0), .int (nI 1023), .int (nI 0), .int (nI 0), .ref q1, .null, .null, .null, .null, .int 0])), (q1, .inl (k1, 16, .inl (fun _ => 0)))] := hD
  refine lv_aload_n hx hb dX0_init_34 rfl (lv_at hl 0 rfl) ?_
  refine lv_sipush (v := nI 160) hx hb dX0_init_35 (by decide) ?_
  refine va_newa (atype := .int) (n := nI 160) (a0 := (160, .inl (fun _ => 0))) (N' := 160) hx hb (hts (.arrayClass .int) (by decide +kernel)) (ty := .int) rfl hK hP hD hS hA (fun _ => rfl) (by decide) (by decide) (by decide) (show 0 + 1 + 1 ≤ 5 by omega) (show 0 + 16 + 160 ≤ 1519 by omega) dX0_init_38 (fun q2 k2 H hK hP hD hS => ?_)
  have hK : va_K D vwCl [(k1, .int), (k2, .int)] s := hK
  have hP : va_P D vwCl [(h0, .inr (0, [.int (nI 0), .int (nI 1023), .int (nI 0), .int (nI 0), .ref q1, .null, .null, .null, .null, .int 0])), (q1, .inl (k1, 16, .inl (fun _ => 0))), (q2, .inl (k2, 160, .inl (fun _ => 0)))] H := hP
  have hD : va_D A [(h0, .inr (0, [.int (nI 0), .int (nI 1023), .int (nI 0), .int (nI 0), .ref q1, .null, .null, .null, .null, .int 0])), (q1, .inl (k1, 16, .inl (fun _ => 0))), (q2, .inl (k2, 160, .inl (fun _ => 0)))] := hD
  refine va_putF (D := D) (ci := 0) (v := .ref q2) (ty := .array .int) (C := RX0) (T := TX0) (N := 10) hx hb hts hin0 tyX0 tyX0_ok nmX0 hown hK hP hD hS 0 rfl rfl 5 (by decide) (hts (.fieldLink RX0 26 "ClaimBench" "ownClaims" "[I") (by decide +kernel)) (fun _ h9 => h9) rfl hin rfl (by decide +kernel) rfl rfl (Nat.le_of_ble_eq_true rfl) dX0_init_40 (fun H locs hP hD hS => ?_)
  have hP : va_P D vwCl [(h0, .inr (0, [.int (nI 0), .int (nI 1023), .int (nI 0), .int (nI 0), .ref q1, .ref q2, .null, .null, .null, .int 0])), (q1, .inl (k1, 16, .inl (fun _ => 0))), (q2, .inl (k2, 160, .inl (fun _ => 0)))] H := hP
  have hD : va_D A [(h0, .inr (0, [.int (nI 0), .int (nI 1023), .int (nI 0), .int (nI 0), .ref q1, .ref q2, .null, .null, .null, .int 0])), (q1, .inl (k1, 16, .inl (fun _ => 0))), (q2, .inl (k2, 160, .inl (fun _ => 0)))] := hD
  refine lv_aload_n hx hb dX0_init_43 rfl (lv_at hl 0 rfl) ?_
  refine lv_sipush (v := nI 160) hx hb dX0_init_44 (by decide) ?_
  refine va_newa (atype := .int) (n := nI 160) (a0 := (160, .inl (fun _ => 0))) (N' := 160) hx hb (hts (.arrayClass .int) (by decide +kernel)) (ty := .int) rfl hK hP hD hS hA (fun _ => rfl) (by decide) (by decide) (by decide) (show 0 + 1 + 1 + 1 ≤ 5 by omega) (show 0 + 16 + 160 + 160 ≤ 1519 by omega) dX0_init_47 (fun q3 k3 H hK hP hD hS => ?_)
  have hK : va_K D vwCl [(k1, .int), (k2, .int), (k3, .int)] s := hK
  have hP : va_P D vwCl [(h0, .inr (0, [.int (nI 0), .int (nI 1023), .int (nI 0), .int (nI 0), .ref q1, .ref q2, .null, .null, .null, .int 0])), (q1, .inl (k1, 16, .inl (fun _ => 0))), (q2, .inl (k2, 160, .inl (fun _ => 0))), (q3, .inl (k3, 160, .inl (fun _ => 0)))] H := hP
  have hD : va_D A [(h0, .inr (0, [.int (nI 0), .int (nI 1023), .int (nI 0), .int (nI 0), .ref q1, .ref q2, .null, .null, .null, .int 0])), (q1, .inl (k1, 16, .inl (fun _ => 0))), (q2, .inl (k2, 160, .inl (fun _ => 0))), (q3, .inl (k3, 160, .inl (fun _ => 0)))] := hD
  refine va_putF (D := D) (ci := 0) (v := .ref q3) (ty := .array .int) (C := RX0) (T := TX0) (N := 10) hx hb hts hin0 tyX0 tyX0_ok nmX0 hown hK hP hD hS 0 rfl rfl 6 (by decide) (hts (.fieldLink RX0 29 "ClaimBench" "keptClaims" "[I") (by decide +kernel)) (fun _ h9 => h9) rfl hin rfl (by decide +kernel) rfl rfl (Nat.le_of_ble_eq_true rfl) dX0_init_49 (fun H locs hP hD hS => ?_)
  have hP : va_P D vwCl [(h0, .inr (0, [.int (nI 0), .int (nI 1023), .int (nI 0), .int (nI 0), .ref q1, .ref q2, .ref q3, .null, .null, .int 0])), (q1, .inl (k1, 16, .inl (fun _ => 0))), (q2, .inl (k2, 160, .inl (fun _ => 0))), (q3, .inl (k3, 160, .inl (fun _ => 0)))] H := hP
  have hD : va_D A [(h0, .inr (0, [.int (nI 0), .int (nI 1023), .int (nI 0), .int (nI 0), .ref q1, .ref q2, .ref q3, .null, .null, .int 0])), (q1, .inl (k1, 16, .inl (fun _ => 0))), (q2, .inl (k2, 160, .inl (fun _ => 0))), (q3, .inl (k3, 160, .inl (fun _ => 0)))] := hD
  refine lv_aload_n hx hb dX0_init_52 rfl (lv_at hl 0 rfl) ?_
  refine lv_sipush (v := nI 160) hx hb dX0_init_53 (by decide) ?_
  refine va_newa (atype := .int) (n := nI 160) (a0 := (160, .inl (fun _ => 0))) (N' := 160) hx hb (hts (.arrayClass .int) (by decide +kernel)) (ty := .int) rfl hK hP hD hS hA (fun _ => rfl) (by decide) (by decide) (by decide) (show 0 + 1 + 1 + 1 + 1 ≤ 5 by omega) (show 0 + 16 + 160 + 160 + 160 ≤ 1519 by omega) dX0_init_56 (fun q4 k4 H hK hP hD hS => ?_)
  have hK : va_K D vwCl [(k1, .int), (k2, .int), (k3, .int), (k4, .int)] s := hK
  have hP : va_P D vwCl [(h0, .inr (0, [.int (nI 0), .int (nI 1023), .int (nI 0), .int (nI 0), .ref q1, .ref q2, .ref q3, .null, .null, .int 0])), (q1, .inl (k1, 16, .inl (fun _ => 0))), (q2, .inl (k2, 160, .inl (fun _ => 0))), (q3, .inl (k3, 160, .inl (fun _ => 0))), (q4, .inl (k4, 160, .inl (fun _ => 0)))] H := hP
  have hD : va_D A [(h0, .inr (0, [.int (nI 0), .int (nI 1023), .int (nI 0), .int (nI 0), .ref q1, .ref q2, .ref q3, .null, .null, .int 0])), (q1, .inl (k1, 16, .inl (fun _ => 0))), (q2, .inl (k2, 160, .inl (fun _ => 0))), (q3, .inl (k3, 160, .inl (fun _ => 0))), (q4, .inl (k4, 160, .inl (fun _ => 0)))] := hD
  refine va_putF (D := D) (ci := 0) (v := .ref q4) (ty := .array .int) (C := RX0) (T := TX0) (N := 10) hx hb hts hin0 tyX0 tyX0_ok nmX0 hown hK hP hD hS 0 rfl rfl 7 (by decide) (hts (.fieldLink RX0 32 "ClaimBench" "keptUntil" "[I") (by decide +kernel)) (fun _ h9 => h9) rfl hin rfl (by decide +kernel) rfl rfl (Nat.le_of_ble_eq_true rfl) dX0_init_58 (fun H locs hP hD hS => ?_)
  have hP : va_P D vwCl [(h0, .inr (0, [.int (nI 0), .int (nI 1023), .int (nI 0), .int (nI 0), .ref q1, .ref q2, .ref q3, .ref q4, .null, .int 0])), (q1, .inl (k1, 16, .inl (fun _ => 0))), (q2, .inl (k2, 160, .inl (fun _ => 0))), (q3, .inl (k3, 160, .inl (fun _ => 0))), (q4, .inl (k4, 160, .inl (fun _ => 0)))] H := hP
  have hD : va_D A [(h0, .inr (0, [.int (nI 0), .int (nI 1023), .int (nI 0), .int (nI 0), .ref q1, .ref q2, .ref q3, .ref q4, .null, .int 0])), (q1, .inl (k1, 16, .inl (fun _ => 0))), (q2, .inl (k2, 160, .inl (fun _ => 0))), (q3, .inl (k3, 160, .inl (fun _ => 0))), (q4, .inl (k4, 160, .inl (fun _ => 0)))] := hD
  refine lv_aload_n hx hb dX0_init_61 rfl (lv_at hl 0 rfl) ?_
  refine lv_sipush (v := nI 1023) hx hb dX0_init_62 (by decide) ?_
  refine va_newa (atype := .int) (n := nI 1023) (a0 := (1023, .inl (fun _ => 0))) (N' := 1023) hx hb (hts (.arrayClass .int) (by decide +kernel)) (ty := .int) rfl hK hP hD hS hA (fun _ => rfl) (by decide) (by decide) (by decide) (show 0 + 1 + 1 + 1 + 1 + 1 ≤ 5 by omega) (show 0 + 16 + 160 + 160 + 160 + 1023 ≤ 1519 by omega) dX0_init_65 (fun q5 k5 H hK hP hD hS => ?_)
  have hK : va_K D vwCl [(k1, .int), (k2, .int), (k3, .int), (k4, .int), (k5, .int)] s := hK
  have hP : va_P D vwCl [(h0, .inr (0, [.int (nI 0), .int (nI 1023), .int (nI 0), .int (nI 0), .ref q1, .ref q2, .ref q3, .ref q4, .null, .int 0])), (q1, .inl (k1, 16, .inl (fun _ => 0))), (q2, .inl (k2, 160, .inl (fun _ => 0))), (q3, .inl (k3, 160, .inl (fun _ => 0))), (q4, .inl (k4, 160, .inl (fun _ => 0))), (q5, .inl (k5, 1023, .inl (fun _ => 0)))] H := hP
  have hD : va_D A [(h0, .inr (0, [.int (nI 0), .int (nI 1023), .int (nI 0), .int (nI 0), .ref q1, .ref q2, .ref q3, .ref q4, .null, .int 0])), (q1, .inl (k1, 16, .inl (fun _ => 0))), (q2, .inl (k2, 160, .inl (fun _ => 0))), (q3, .inl (k3, 160, .inl (fun _ => 0))), (q4, .inl (k4, 160, .inl (fun _ => 0))), (q5, .inl (k5, 1023, .inl (fun _ => 0)))] := hD
  refine va_putF (D := D) (ci := 0) (v := .ref q5) (ty := .array .int) (C := RX0) (T := TX0) (N := 10) hx hb hts hin0 tyX0 tyX0_ok nmX0 hown hK hP hD hS 0 rfl rfl 8 (by decide) (hts (.fieldLink RX0 35 "ClaimBench" "row" "[I") (by decide +kernel)) (fun _ h9 => h9) rfl hin rfl (by decide +kernel) rfl rfl (Nat.le_of_ble_eq_true rfl) dX0_init_67 (fun H locs hP hD hS => ?_)
  have hP : va_P D vwCl [(h0, .inr (0, [.int (nI 0), .int (nI 1023), .int (nI 0), .int (nI 0), .ref q1, .ref q2, .ref q3, .ref q4, .ref q5, .int 0])), (q1, .inl (k1, 16, .inl (fun _ => 0))), (q2, .inl (k2, 160, .inl (fun _ => 0))), (q3, .inl (k3, 160, .inl (fun _ => 0))), (q4, .inl (k4, 160, .inl (fun _ => 0))), (q5, .inl (k5, 1023, .inl (fun _ => 0)))] H := hP
  have hD : va_D A [(h0, .inr (0, [.int (nI 0), .int (nI 1023), .int (nI 0), .int (nI 0), .ref q1, .ref q2, .ref q3, .ref q4, .ref q5, .int 0])), (q1, .inl (k1, 16, .inl (fun _ => 0))), (q2, .inl (k2, 160, .inl (fun _ => 0))), (q3, .inl (k3, 160, .inl (fun _ => 0))), (q4, .inl (k4, 160, .inl (fun _ => 0))), (q5, .inl (k5, 1023, .inl (fun _ => 0)))] := hD
  refine lv_aload_n hx hb dX0_init_70 rfl (lv_at hl 0 rfl) ?_
  refine lv_iconst (v := nI 0) hx hb dX0_init_71 (by decide) ?_
  refine va_put (D := D) (ci := 0) (v := .int (nI 0)) (ty := .int) (C := RX0) (T := TX0) (N := 10) hx hb hts hin0 tyX0 tyX0_ok nmX0 hown hK hP hD hS 0 rfl rfl 9 (by decide) (hts (.fieldLink RX0 38 "ClaimBench" "rowLength" "I") (by decide +kernel)) (fun _ h9 => h9) rfl (by decide +kernel) rfl rfl (Nat.le_of_ble_eq_true rfl) dX0_init_72 (fun H locs hP hD hS => ?_)
  have hP : va_P D vwCl [(h0, .inr (0, [.int (nI 0), .int (nI 1023), .int (nI 0), .int (nI 0), .ref q1, .ref q2, .ref q3, .ref q4, .ref q5, .int (nI 0)])), (q1, .inl (k1, 16, .inl (fun _ => 0))), (q2, .inl (k2, 160, .inl (fun _ => 0))), (q3, .inl (k3, 160, .inl (fun _ => 0))), (q4, .inl (k4, 160, .inl (fun _ => 0))), (q5, .inl (k5, 1023, .inl (fun _ => 0)))] H := hP
  have hD : va_D A [(h0, .inr (0, [.int (nI 0), .int (nI 1023), .int (nI 0), .int (nI 0), .ref q1, .ref q2, .ref q3, .ref q4, .ref q5, .int (nI 0)])), (q1, .inl (k1, 16, .inl (fun _ => 0))), (q2, .inl (k2, 160, .inl (fun _ => 0))), (q3, .inl (k3, 160, .inl (fun _ => 0))), (q4, .inl (k4, 160, .inl (fun _ => 0))), (q5, .inl (k5, 1023, .inl (fun _ => 0)))] := hD
  refine W.widen (k := 5) (n := 1519) (show 0 + 1 + 1 + 1 + 1 + 1 ≤ 5 by omega) (show 0 + 16 + 160 + 160 + 160 + 1023 ≤ 1519 by omega) ?_
  have hDg : ∀ g : Nat → Int32, va_D A [(h0, .inr (0, [.int (nI 0), .int (nI 1023), .int (nI 0), .int (nI 0), .ref q1, .ref q2, .ref q3, .ref q4, .ref q5, .int (nI 0)])), (q1, .inl (k1, 16, .inl (fun _ => 0))), (q2, .inl (k2, 160, .inl g)), (q3, .inl (k3, 160, .inl (fun _ => 0))), (q4, .inl (k4, 160, .inl (fun _ => 0))), (q5, .inl (k5, 1023, .inl (fun _ => 0)))] := fun g => hD.set (p := 2) rfl
  have outer : ∀ (n r : Nat), 10 < r + n → r ≤ 10 → ∀ (g : Nat → Int32) (H : Heap) (locs : List Loc), (∀ c, c < 16 * r → g c = nI (pO S0 c)) → va_P D vwCl [(h0, .inr (0, [.int (nI 0), .int (nI 1023), .int (nI 0), .int (nI 0), .ref q1, .ref q2, .ref q3, .ref q4, .ref q5, .int (nI 0)])), (q1, .inl (k1, 16, .inl (fun _ => 0))), (q2, .inl (k2, 160, .inl g)), (q3, .inl (k3, 160, .inl (fun _ => 0))), (q4, .inl (k4, 160, .inl (fun _ => 0))), (q5, .inl (k5, 1023, .inl (fun _ => 0)))] H → va_S A s.heap H locs → ∀ (ls : Array Slot), lv_has ls 3 [(1, .int (nI r)), (0, .ref h0)] → W p l e (headSpec wsX0_init ({ frames := 1, cells := 5, slots := 1519, locals := 22 })).room s m ([.ref h0] : List Value).toArray below meth c H locs 5 1519 (MQ below (va_Qv (fun _ : (Nat → Nat) × (Nat → ClassId) => True) (fun u t => u.1 0 = h0 ∧ va_P D vwCl (wB u.1 u.2 S0 0) t.heap ∧ va_K D vwCl (tyB u.2) t ∧ va_D A (wB u.1 u.2 S0 0)) A) ([.ref h0] : List Value).toArray s 5 1519 A) (F0 m 77 ls []) := by
    intro n
    induction n with
    | zero => exact fun r h1 h2 => absurd h1 (by omega)
    | succ n ihO =>
      intro r hr1 hr2 g H locs hg hP hS ls hl
      refine lv_iload_n hx hb dX0_init_77 rfl (lv_at hl 0 rfl) ?_
      refine lv_bipush (v := nI 10) hx hb dX0_init_78 (by decide) ?_
      refine xx_ge (tgt := 119) hx hb dX0_init_80 (by decide) (by omega) (by omega) (fun hr3 => ?_) (fun hr3 => ?_)
      · exact W.vret hx hb hr (fun t ht hW => ⟨⟨(adB h0 q1 q2 q3 q4 q5, ckB k1 k2 k3 k4 k5), rfl, trivial, rfl, by rw [ht, wB_0]; exact va_Pext hP 2 (fun c => nI (pO S0 c)) rfl (fun c hc => hg c (by omega)), va_K.moved hW.alike hK, by rw [wB_0]; exact hDg _⟩, hS.F ht⟩) hS.2.2 dX0_init_119
      · refine lv_iconst (v := nI 0) hx hb dX0_init_83 (by decide) ?_
        refine lv_istore_n (lv' := [(2, .int (nI 0)), (1, .int (nI r)), (0, .ref h0)]) hx hb dX0_init_84 rfl hl (by decide) rfl (fun ls hl => ?_)
        have inner : ∀ (n z : Nat), 16 < z + n → z ≤ 16 → ∀ (g : Nat → Int32) (H : Heap) (locs : List Loc), (∀ c, c < 16 * r + z → g c = nI (pO S0 c)) → va_P D vwCl [(h0, .inr (0, [.int (nI 0), .int (nI 1023), .int (nI 0), .int (nI 0), .ref q1, .ref q2, .ref q3, .ref q4, .ref q5, .int (nI 0)])), (q1, .inl (k1, 16, .inl (fun _ => 0))), (q2, .inl (k2, 160, .inl g)), (q3, .inl (k3, 160, .inl (fun _ => 0))), (q4, .inl (k4, 160, .inl (fun _ => 0))), (q5, .inl (k5, 1023, .inl (fun _ => 0)))] H → va_S A s.heap H locs → ∀ (ls : Array Slot), lv_has ls 3 [(2, .int (nI z)), (1, .int (nI r)), (0, .ref h0)] → W p l e (headSpec wsX0_init ({ frames := 1, cells := 5, slots := 1519, locals := 22 })).room s m ([.ref h0] : List Value).toArray below meth c H locs 5 1519 (MQ below (va_Qv (fun _ : (Nat → Nat) × (Nat → ClassId) => True) (fun u t => u.1 0 = h0 ∧ va_P D vwCl (wB u.1 u.2 S0 0) t.heap ∧ va_K D vwCl (tyB u.2) t ∧ va_D A (wB u.1 u.2 S0 0)) A) ([.ref h0] : List Value).toArray s 5 1519 A) (F0 m 85 ls []) := by
          intro n
          induction n with
          | zero => exact fun z h1 h2 => absurd h1 (by omega)
          | succ n ih =>
            intro z hz1 hz2 g H locs hg hP hS ls hl
            refine lv_iload_n hx hb dX0_init_85 rfl (lv_at hl 0 rfl) ?_
            refine lv_bipush (v := nI 16) hx hb dX0_init_86 (by decide) ?_
            refine xx_ge (tgt := 113) hx hb dX0_init_88 (by decide) (by omega) (by omega) (fun hz3 => ?_) (fun hz3 => ?_)
            · refine lv_iinc (v := nI (r + 1)) (lv' := [(1, .int (nI (r + 1))), (2, .int (nI z)), (0, .ref h0)]) hx hb dX0_init_113 hl (k := 1) rfl (nI_1 _) (by decide) rfl (fun ls hl => ?_)
              refine lv_goto (tgt := 77) hx hb dX0_init_116 (by decide) ?_
              exact ihO (r + 1) (by omega) (by omega) g H locs (fun c hc => hg c (by omega)) hP hS ls (lv_sub hl [0, 2] rfl)
            · refine lv_aload_n hx hb dX0_init_91 rfl (lv_at hl 2 rfl) ?_
              refine va_get (D := D) (ci := 0) (v := .ref q2) (C := RX0) (T := TX0) (N := 10) hx hb hts hin0 hown hK hP 0 rfl rfl 5 (by decide) (hts (.fieldLink RX0 26 "ClaimBench" "ownClaims" "[I") (by decide +kernel)) (fun _ h9 => h9) rfl dX0_init_92 ?_
              refine lv_iload_n hx hb dX0_init_95 rfl (lv_at hl 1 rfl) ?_
              refine lv_iload_n hx hb dX0_init_96 rfl (lv_at hl 0 rfl) ?_
              refine W.callR (W.runS (As := [.int (nI r), .int (nI z)]) (rest := [.ref q2]) ⟨hx, hb, hml, hown, hts⟩ (c0_cellOf l r z) (va_cwS 2 hts gX0_init_X0_cellOf rfl rfl rfl (by decide +kernel) ⟨Nat.le_of_ble_eq_true rfl, Nat.le_of_ble_eq_true rfl⟩) preEq rfl rfl hl.1 rfl (lv_room (Nat.le_of_ble_eq_true rfl)) dX0_init_97 ⟨show 5 + 0 ≤ 5 by omega, show 1519 + 0 ≤ 1519 by omega⟩) ?_
              refine W.eq (g2 := F0 m 100 ls [.int (nI (16 * r + z)), .ref q2]) rfl ?_
              refine lv_iload_n hx hb dX0_init_100 rfl (lv_at hl 1 rfl) ?_
              refine lv_iconst (v := nI 0) hx hb dX0_init_101 (by decide) ?_
              refine lv_iconst (v := nI 0) hx hb dX0_init_102 (by decide) ?_
              refine W.callR (W.runS (As := [.int (nI r), .int (bI false), .int (nI 0)]) (rest := [.int (nI (16 * r + z)), .ref q2]) ⟨hx, hb, hml, hown, hts⟩ (c0_claimOf l r false 0) (va_cwS 3 hts gX0_init_X0_claimOf rfl rfl rfl (by decide +kernel) ⟨Nat.le_of_ble_eq_true rfl, Nat.le_of_ble_eq_true rfl⟩) preEq rfl rfl hl.1 rfl (lv_room (Nat.le_of_ble_eq_true rfl)) dX0_init_103 ⟨show 5 + 0 ≤ 5 by omega, show 1519 + 0 ≤ 1519 by omega⟩) ?_
              refine W.eq (g2 := F0 m 106 ls [.int (nI ((if false then 0 else 1000000) + 100 * 0 + r)), .int (nI (16 * r + z)), .ref q2]) rfl ?_
              refine xx_ast hx hb hK hP (hDg g) hS 2 1 rfl rfl (j := 16 * r + z) (by omega) (by decide) (upd g (16 * r + z) (nI ((if false then 0 else 1000000) + 100 * 0 + r))) rfl dX0_init_106 (fun H locs hP hS => ?_)
              have hP : va_P D vwCl [(h0, .inr (0, [.int (nI 0), .int (nI 1023), .int (nI 0), .int (nI 0), .ref q1, .ref q2, .ref q3, .ref q4, .ref q5, .int (nI 0)])), (q1, .inl (k1, 16, .inl (fun _ => 0))), (q2, .inl (k2, 160, .inl (upd g (16 * r + z) (nI ((if false then 0 else 1000000) + 100 * 0 + r))))), (q3, .inl (k3, 160, .inl (fun _ => 0))), (q4, .inl (k4, 160, .inl (fun _ => 0))), (q5, .inl (k5, 1023, .inl (fun _ => 0)))] H := hP
              refine lv_iinc (v := nI (z + 1)) (lv' := [(2, .int (nI (z + 1))), (1, .int (nI r)), (0, .ref h0)]) hx hb dX0_init_107 hl (k := 0) rfl (nI_1 _) (by decide) rfl (fun ls hl => ?_)
              refine lv_goto (tgt := 85) hx hb dX0_init_110 (by decide) ?_
              refine ih (z + 1) (by omega) (by omega) _ H locs (fun c hc => ?_) hP hS ls (lv_sub hl [0, 1, 2] rfl)
              unfold upd
              by_cases hc2 : c = 16 * r + z
              · rw [if_pos hc2, hc2]
                show _ = nI ((if false then 0 else 1000000) + 100 * 0 + (16 * r + z) / 16)
                rw [show (16 * r + z) / 16 = r by omega]
              · rw [if_neg hc2]; exact hg c (by omega)
        exact inner 17 0 (by omega) (by omega) g H locs (fun c hc => hg c (by omega)) hP hS ls (lv_sub hl [0, 1, 2] rfl)
  refine lv_iconst (v := nI 0) hx hb dX0_init_75 (by decide) ?_
  refine lv_istore_n (lv' := [(1, .int (nI 0)), (0, .ref h0)]) hx hb dX0_init_76 rfl hl (by decide) rfl (fun ls hl => ?_)
  exact outer 11 0 (by omega) (by omega) (fun _ => 0) H locs (fun c hc => absurd hc (by omega)) hP hS ls (lv_sub hl [0, 1] rfl)
set_option maxHeartbeats 1000000 in
set_option maxRecDepth 100000 in
theorem c1_init (l : Launch) (D : va_G) (h0 sz : Nat) : Met l yX1_init wsX1_init ({ frames := 1, cells := 8, slots := 1844, locals := 12 }) (va_Pc [.ref h0] (fun U => U.heap.size = sz ∧ va_P D vwCl [(h0, .inr (1, [.int 0, .int 0, .null, .null, .null, .null, .null, .null, .null, .null, .int 0]))] U.heap ∧ va_K D vwCl [] U ∧ va_D (fun _ => True) [(h0, .inr (1, [.int 0, .int 0, .null, .null, .null, .null, .null, .null, .null, .null, .int 0]))])) (va_Qv (fun _ : (Nat → Nat) × (Nat → ClassId) => True) (fun u t => u.1 0 = h0 ∧ va_P D vwCl (wM u.1 u.2 S0 0) t.heap ∧ va_K D vwCl (tyM u.2) t ∧ va_D (va_A [(h0, .inr (1, [.int 0, .int 0, .null, .null, .null, .null, .null, .null, .null, .null, .int 0]))] sz) (wM u.1 u.2 S0 0)) (va_A [(h0, .inr (1, [.int 0, .int 0, .null, .null, .null, .null, .null, .null, .null, .null, .int 0]))] sz)) 8 1844 (va_A [(h0, .inr (1, [.int 0, .int 0, .null, .null, .null, .null, .null, .null, .null, .null, .int 0]))] sz) := by
  refine Met.ofW (cc := cX1_init) (maxL := 2) (ret := none) (by decide) rfl ?_
  intro p e s m args below meth c s₁ B hml hv
  obtain ⟨rfl, hsz, hP, hK, hD0⟩ := hv
  have hx := B.exec
  have hb := B.bytes
  have hr := B.returns
  have hts := atoms_spec (ws := wsX1_init) B.pre
  have hown : s.vm.findClass RX1 = some m.cls := findClass_of_methodNamed B.named
  have hlocks := B.notSynchronized
  have hin : meth.name = "<init>" := (name_of_methodNamed B.named B.method).1
  have hin0 : ∀ w ∈ wsX10, w ∈ wsX1_init := by decide +kernel
  subst hsz
  have hD := hD0.self (sz := s.heap.size)
  generalize hAe : va_A [(h0, .inr (1, [.int 0, .int 0, .null, .null, .null, .null, .null, .null, .null, .null, .int 0]))] s.heap.size = A at hD ⊢
  have hA : ∀ q : Nat, s.heap.size ≤ q → A q := fun q h => by rw [← hAe]; exact Or.inr h
  have hS : va_S A s.heap s.heap [] := va_S.rf
  have hl := lv_entry ([.ref h0]) (n := 2) (Nat.le_of_ble_eq_true rfl)
  rw [lg_entry_eq]
  generalize (lg_sl ([.ref h0]) ++ List.replicate (2 - (lg_sl ([.ref h0])).length) Slot.unset).toArray = ls at hl ⊢
  have hl : lv_has ls 2 [(0, .ref h0)] := hl
  refine lv_aload_n hx hb dX1_init_0 rfl (lv_at hl 0 rfl) ?_
  refine W.objInit hx hb hown (hts (.methodLink RX1 1 objectInit) (by decide +kernel)) (hts (.instanceMethod objectInit) (by decide +kernel)) (hts _ (List.mem_cons_of_mem _ (List.mem_append_left _ (List.mem_of_getElem? (i := 2) rfl)))) rfl (by rw [hml]; exact hl.1) rfl dX1_init_1 (Nat.le_of_ble_eq_true rfl) (Nat.le_of_ble_eq_true rfl) ?_
  refine W.eq (g2 := F0 m 4 ls []) rfl ?_
  refine lv_aload_n hx hb dX1_init_4 rfl (lv_at hl 0 rfl) ?_
  refine lv_bipush (v := nI 10) hx hb dX1_init_5 (by decide) ?_
  refine va_newa (atype := .boolean) (n := nI 10) (a0 := (10, .inl (fun _ => 0))) (N' := 10) hx hb (hts (.arrayClass .boolean) (by decide +kernel)) (ty := .boolean) rfl hK hP hD hS hA (fun _ => rfl) (by decide) (by decide) (by decide) (show 0 + 1 ≤ 8 by omega) (show 0 + 10 ≤ 1844 by omega) dX1_init_7 (fun q1 k1 H hK hP hD hS => ?_)
  have hK : va_K D vwCl [(k1, .boolean)] s := hK
  have hP : va_P D vwCl [(h0, .inr (1, [.int 0, .int 0, .null, .null, .null, .null, .null, .null, .null, .null, .int 0])), (q1, .inl (k1, 10, .inl (fun _ => 0)))] H := hP
  have hD : va_D A [(h0, .inr (1, [.int 0, .int 0, .null, .null, .null, .null, .null, .null, .null, .null, .int 0])), (q1, .inl (k1, 10, .inl (fun _ => 0)))] := hD
  refine va_putF (D := D) (ci := 1) (v := .ref q1) (ty := .array .boolean) (C := RX1) (T := TX1) (N := 11) hx hb hts hin0 tyX1 tyX1_ok nmX1 hown hK hP hD hS 0 rfl rfl 2 (by decide) (hts (.fieldLink RX1 7 "ClaimBenchModel" "isGone" "[Z") (by decide +kernel)) (fun _ h9 => h9) rfl hin rfl (by decide +kernel) rfl rfl (Nat.le_of_ble_eq_true rfl) dX1_init_9 (fun H locs hP hD hS => ?_)
  have hP : va_P D vwCl [(h0, .inr (1, [.int 0, .int 0, .ref q1, .null, .null, .null, .null, .null, .null, .null, .int 0])), (q1, .inl (k1, 10, .inl (fun _ => 0)))] H := hP
  have hD : va_D A [(h0, .inr (1, [.int 0, .int 0, .ref q1, .null, .null, .null, .null, .null, .null, .null, .int 0])), (q1, .inl (k1, 10, .inl (fun _ => 0)))] := hD
  refine lv_aload_n hx hb dX1_init_12 rfl (lv_at hl 0 rfl) ?_
  refine lv_bipush (v := nI 10) hx hb dX1_init_13 (by decide) ?_
  refine va_newa (atype := .boolean) (n := nI 10) (a0 := (10, .inl (fun _ => 0))) (N' := 10) hx hb (hts (.arrayClass .boolean) (by decide +kernel)) (ty := .boolean) rfl hK hP hD hS hA (fun _ => rfl) (by decide) (by decide) (by decide) (show 0 + 1 + 1 ≤ 8 by omega) (show 0 + 10 + 10 ≤ 1844 by omega) dX1_init_15 (fun q2 k2 H hK hP hD hS => ?_)
  have hK : va_K D vwCl [(k1, .boolean), (k2, .boolean)] s := hK
  have hP : va_P D vwCl [(h0, .inr (1, [.int 0, .int 0, .ref q1, .null, .null, .null, .null, .null, .null, .null, .int 0])), (q1, .inl (k1, 10, .inl (fun _ => 0))), (q2, .inl (k2, 10, .inl (fun _ => 0)))] H := hP
  have hD : va_D A [(h0, .inr (1, [.int 0, .int 0, .ref q1, .null, .null, .null, .null, .null, .null, .null, .int 0])), (q1, .inl (k1, 10, .inl (fun _ => 0))), (q2, .inl (k2, 10, .inl (fun _ => 0)))] := hD
  refine va_putF (D := D) (ci := 1) (v := .ref q2) (ty := .array .boolean) (C := RX1) (T := TX1) (N := 11) hx hb hts hin0 tyX1 tyX1_ok nmX1 hown hK hP hD hS 0 rfl rfl 3 (by decide) (hts (.fieldLink RX1 13 "ClaimBenchModel" "isDeaf" "[Z") (by decide +kernel)) (fun _ h9 => h9) rfl hin rfl (by decide +kernel) rfl rfl (Nat.le_of_ble_eq_true rfl) dX1_init_17 (fun H locs hP hD hS => ?_)
  have hP : va_P D vwCl [(h0, .inr (1, [.int 0, .int 0, .ref q1, .ref q2, .null, .null, .null, .null, .null, .null, .int 0])), (q1, .inl (k1, 10, .inl (fun _ => 0))), (q2, .inl (k2, 10, .inl (fun _ => 0)))] H := hP
  have hD : va_D A [(h0, .inr (1, [.int 0, .int 0, .ref q1, .ref q2, .null, .null, .null, .null, .null, .null, .int 0])), (q1, .inl (k1, 10, .inl (fun _ => 0))), (q2, .inl (k2, 10, .inl (fun _ => 0)))] := hD
  refine lv_aload_n hx hb dX1_init_20 rfl (lv_at hl 0 rfl) ?_
  refine lv_sipush (v := nI 160) hx hb dX1_init_21 (by decide) ?_
  refine va_newa (atype := .boolean) (n := nI 160) (a0 := (160, .inl (fun _ => 0))) (N' := 160) hx hb (hts (.arrayClass .boolean) (by decide +kernel)) (ty := .boolean) rfl hK hP hD hS hA (fun _ => rfl) (by decide) (by decide) (by decide) (show 0 + 1 + 1 + 1 ≤ 8 by omega) (show 0 + 10 + 10 + 160 ≤ 1844 by omega) dX1_init_24 (fun q3 k3 H hK hP hD hS => ?_)
  have hK : va_K D vwCl [(k1, .boolean), (k2, .boolean), (k3, .boolean)] s := hK
  have hP : va_P D vwCl [(h0, .inr (1, [.int 0, .int 0, .ref q1, .ref q2, .null, .null, .null, .null, .null, .null, .int 0])), (q1, .inl (k1, 10, .inl (fun _ => 0))), (q2, .inl (k2, 10, .inl (fun _ => 0))), (q3, .inl (k3, 160, .inl (fun _ => 0)))] H := hP
  have hD : va_D A [(h0, .inr (1, [.int 0, .int 0, .ref q1, .ref q2, .null, .null, .null, .null, .null, .null, .int 0])), (q1, .inl (k1, 10, .inl (fun _ => 0))), (q2, .inl (k2, 10, .inl (fun _ => 0))), (q3, .inl (k3, 160, .inl (fun _ => 0)))] := hD
  refine va_putF (D := D) (ci := 1) (v := .ref q3) (ty := .array .boolean) (C := RX1) (T := TX1) (N := 11) hx hb hts hin0 tyX1 tyX1_ok nmX1 hown hK hP hD hS 0 rfl rfl 4 (by decide) (hts (.fieldLink RX1 16 "ClaimBenchModel" "forwards" "[Z") (by decide +kernel)) (fun _ h9 => h9) rfl hin rfl (by decide +kernel) rfl rfl (Nat.le_of_ble_eq_true rfl) dX1_init_26 (fun H locs hP hD hS => ?_)
  have hP : va_P D vwCl [(h0, .inr (1, [.int 0, .int 0, .ref q1, .ref q2, .ref q3, .null, .null, .null, .null, .null, .int 0])), (q1, .inl (k1, 10, .inl (fun _ => 0))), (q2, .inl (k2, 10, .inl (fun _ => 0))), (q3, .inl (k3, 160, .inl (fun _ => 0)))] H := hP
  have hD : va_D A [(h0, .inr (1, [.int 0, .int 0, .ref q1, .ref q2, .ref q3, .null, .null, .null, .null, .null, .int 0])), (q1, .inl (k1, 10, .inl (fun _ => 0))), (q2, .inl (k2, 10, .inl (fun _ => 0))), (q3, .inl (k3, 160, .inl (fun _ => 0)))] := hD
  refine lv_aload_n hx hb dX1_init_29 rfl (lv_at hl 0 rfl) ?_
  refine lv_sipush (v := nI 160) hx hb dX1_init_30 (by decide) ?_
  refine va_newa (atype := .boolean) (n := nI 160) (a0 := (160, .inl (fun _ => 0))) (N' := 160) hx hb (hts (.arrayClass .boolean) (by decide +kernel)) (ty := .boolean) rfl hK hP hD hS hA (fun _ => rfl) (by decide) (by decide) (by decide) (show 0 + 1 + 1 + 1 + 1 ≤ 8 by omega) (show 0 + 10 + 10 + 160 + 160 ≤ 1844 by omega) dX1_init_33 (fun q4 k4 H hK hP hD hS => ?_)
  have hK : va_K D vwCl [(k1, .boolean), (k2, .boolean), (k3, .boolean), (k4, .boolean)] s := hK
  have hP : va_P D vwCl [(h0, .inr (1, [.int 0, .int 0, .ref q1, .ref q2, .ref q3, .null, .null, .null, .null, .null, .int 0])), (q1, .inl (k1, 10, .inl (fun _ => 0))), (q2, .inl (k2, 10, .inl (fun _ => 0))), (q3, .inl (k3, 160, .inl (fun _ => 0))), (q4, .inl (k4, 160, .inl (fun _ => 0)))] H := hP
  have hD : va_D A [(h0, .inr (1, [.int 0, .int 0, .ref q1, .ref q2, .ref q3, .null, .null, .null, .null, .null, .int 0])), (q1, .inl (k1, 10, .inl (fun _ => 0))), (q2, .inl (k2, 10, .inl (fun _ => 0))), (q3, .inl (k3, 160, .inl (fun _ => 0))), (q4, .inl (k4, 160, .inl (fun _ => 0)))] := hD
  refine va_putF (D := D) (ci := 1) (v := .ref q4) (ty := .array .boolean) (C := RX1) (T := TX1) (N := 11) hx hb hts hin0 tyX1 tyX1_ok nmX1 hown hK hP hD hS 0 rfl rfl 5 (by decide) (hts (.fieldLink RX1 19 "ClaimBenchModel" "isStraight" "[Z") (by decide +kernel)) (fun _ h9 => h9) rfl hin rfl (by decide +kernel) rfl rfl (Nat.le_of_ble_eq_true rfl) dX1_init_35 (fun H locs hP hD hS => ?_)
  have hP : va_P D vwCl [(h0, .inr (1, [.int 0, .int 0, .ref q1, .ref q2, .ref q3, .ref q4, .null, .null, .null, .null, .int 0])), (q1, .inl (k1, 10, .inl (fun _ => 0))), (q2, .inl (k2, 10, .inl (fun _ => 0))), (q3, .inl (k3, 160, .inl (fun _ => 0))), (q4, .inl (k4, 160, .inl (fun _ => 0)))] H := hP
  have hD : va_D A [(h0, .inr (1, [.int 0, .int 0, .ref q1, .ref q2, .ref q3, .ref q4, .null, .null, .null, .null, .int 0])), (q1, .inl (k1, 10, .inl (fun _ => 0))), (q2, .inl (k2, 10, .inl (fun _ => 0))), (q3, .inl (k3, 160, .inl (fun _ => 0))), (q4, .inl (k4, 160, .inl (fun _ => 0)))] := hD
  refine lv_aload_n hx hb dX1_init_38 rfl (lv_at hl 0 rfl) ?_
  refine lv_sipush (v := nI 160) hx hb dX1_init_39 (by decide) ?_
  refine va_newa (atype := .int) (n := nI 160) (a0 := (160, .inl (fun _ => 0))) (N' := 160) hx hb (hts (.arrayClass .int) (by decide +kernel)) (ty := .int) rfl hK hP hD hS hA (fun _ => rfl) (by decide) (by decide) (by decide) (show 0 + 1 + 1 + 1 + 1 + 1 ≤ 8 by omega) (show 0 + 10 + 10 + 160 + 160 + 160 ≤ 1844 by omega) dX1_init_42 (fun q5 k5 H hK hP hD hS => ?_)
  have hK : va_K D vwCl [(k1, .boolean), (k2, .boolean), (k3, .boolean), (k4, .boolean), (k5, .int)] s := hK
  have hP : va_P D vwCl [(h0, .inr (1, [.int 0, .int 0, .ref q1, .ref q2, .ref q3, .ref q4, .null, .null, .null, .null, .int 0])), (q1, .inl (k1, 10, .inl (fun _ => 0))), (q2, .inl (k2, 10, .inl (fun _ => 0))), (q3, .inl (k3, 160, .inl (fun _ => 0))), (q4, .inl (k4, 160, .inl (fun _ => 0))), (q5, .inl (k5, 160, .inl (fun _ => 0)))] H := hP
  have hD : va_D A [(h0, .inr (1, [.int 0, .int 0, .ref q1, .ref q2, .ref q3, .ref q4, .null, .null, .null, .null, .int 0])), (q1, .inl (k1, 10, .inl (fun _ => 0))), (q2, .inl (k2, 10, .inl (fun _ => 0))), (q3, .inl (k3, 160, .inl (fun _ => 0))), (q4, .inl (k4, 160, .inl (fun _ => 0))), (q5, .inl (k5, 160, .inl (fun _ => 0)))] := hD
  refine va_putF (D := D) (ci := 1) (v := .ref q5) (ty := .array .int) (C := RX1) (T := TX1) (N := 11) hx hb hts hin0 tyX1 tyX1_ok nmX1 hown hK hP hD hS 0 rfl rfl 6 (by decide) (hts (.fieldLink RX1 22 "ClaimBenchModel" "distance" "[I") (by decide +kernel)) (fun _ h9 => h9) rfl hin rfl (by decide +kernel) rfl rfl (Nat.le_of_ble_eq_true rfl) dX1_init_44 (fun H locs hP hD hS => ?_)
  have hP : va_P D vwCl [(h0, .inr (1, [.int 0, .int 0, .ref q1, .ref q2, .ref q3, .ref q4, .ref q5, .null, .null, .null, .int 0])), (q1, .inl (k1, 10, .inl (fun _ => 0))), (q2, .inl (k2, 10, .inl (fun _ => 0))), (q3, .inl (k3, 160, .inl (fun _ => 0))), (q4, .inl (k4, 160, .inl (fun _ => 0))), (q5, .inl (k5, 160, .inl (fun _ => 0)))] H := hP
  have hD : va_D A [(h0, .inr (1, [.int 0, .int 0, .ref q1, .ref q2, .ref q3, .ref q4, .ref q5, .null, .null, .null, .int 0])), (q1, .inl (k1, 10, .inl (fun _ => 0))), (q2, .inl (k2, 10, .inl (fun _ => 0))), (q3, .inl (k3, 160, .inl (fun _ => 0))), (q4, .inl (k4, 160, .inl (fun _ => 0))), (q5, .inl (k5, 160, .inl (fun _ => 0)))] := hD
  refine lv_aload_n hx hb dX1_init_47 rfl (lv_at hl 0 rfl) ?_
  refine lv_sipush (v := nI 160) hx hb dX1_init_48 (by decide) ?_
  refine va_newa (atype := .int) (n := nI 160) (a0 := (160, .inl (fun _ => 0))) (N' := 160) hx hb (hts (.arrayClass .int) (by decide +kernel)) (ty := .int) rfl hK hP hD hS hA (fun _ => rfl) (by decide) (by decide) (by decide) (show 0 + 1 + 1 + 1 + 1 + 1 + 1 ≤ 8 by omega) (show 0 + 10 + 10 + 160 + 160 + 160 + 160 ≤ 1844 by omega) dX1_init_51 (fun q6 k6 H hK hP hD hS => ?_)
  have hK : va_K D vwCl [(k1, .boolean), (k2, .boolean), (k3, .boolean), (k4, .boolean), (k5, .int), (k6, .int)] s := hK
  have hP : va_P D vwCl [(h0, .inr (1, [.int 0, .int 0, .ref q1, .ref q2, .ref q3, .ref q4, .ref q5, .null, .null, .null, .int 0])), (q1, .inl (k1, 10, .inl (fun _ => 0))), (q2, .inl (k2, 10, .inl (fun _ => 0))), (q3, .inl (k3, 160, .inl (fun _ => 0))), (q4, .inl (k4, 160, .inl (fun _ => 0))), (q5, .inl (k5, 160, .inl (fun _ => 0))), (q6, .inl (k6, 160, .inl (fun _ => 0)))] H := hP
  have hD : va_D A [(h0, .inr (1, [.int 0, .int 0, .ref q1, .ref q2, .ref q3, .ref q4, .ref q5, .null, .null, .null, .int 0])), (q1, .inl (k1, 10, .inl (fun _ => 0))), (q2, .inl (k2, 10, .inl (fun _ => 0))), (q3, .inl (k3, 160, .inl (fun _ => 0))), (q4, .inl (k4, 160, .inl (fun _ => 0))), (q5, .inl (k5, 160, .inl (fun _ => 0))), (q6, .inl (k6, 160, .inl (fun _ => 0)))] := hD
  refine va_putF (D := D) (ci := 1) (v := .ref q6) (ty := .array .int) (C := RX1) (T := TX1) (N := 11) hx hb hts hin0 tyX1 tyX1_ok nmX1 hown hK hP hD hS 0 rfl rfl 7 (by decide) (hts (.fieldLink RX1 26 "ClaimBenchModel" "keptClaim" "[I") (by decide +kernel)) (fun _ h9 => h9) rfl hin rfl (by decide +kernel) rfl rfl (Nat.le_of_ble_eq_true rfl) dX1_init_53 (fun H locs hP hD hS => ?_)
  have hP : va_P D vwCl [(h0, .inr (1, [.int 0, .int 0, .ref q1, .ref q2, .ref q3, .ref q4, .ref q5, .ref q6, .null, .null, .int 0])), (q1, .inl (k1, 10, .inl (fun _ => 0))), (q2, .inl (k2, 10, .inl (fun _ => 0))), (q3, .inl (k3, 160, .inl (fun _ => 0))), (q4, .inl (k4, 160, .inl (fun _ => 0))), (q5, .inl (k5, 160, .inl (fun _ => 0))), (q6, .inl (k6, 160, .inl (fun _ => 0)))] H := hP
  have hD : va_D A [(h0, .inr (1, [.int 0, .int 0, .ref q1, .ref q2, .ref q3, .ref q4, .ref q5, .ref q6, .null, .null, .int 0])), (q1, .inl (k1, 10, .inl (fun _ => 0))), (q2, .inl (k2, 10, .inl (fun _ => 0))), (q3, .inl (k3, 160, .inl (fun _ => 0))), (q4, .inl (k4, 160, .inl (fun _ => 0))), (q5, .inl (k5, 160, .inl (fun _ => 0))), (q6, .inl (k6, 160, .inl (fun _ => 0)))] := hD
  refine lv_aload_n hx hb dX1_init_56 rfl (lv_at hl 0 rfl) ?_
  refine lv_sipush (v := nI 160) hx hb dX1_init_57 (by decide) ?_
  refine va_newa (atype := .int) (n := nI 160) (a0 := (160, .inl (fun _ => 0))) (N' := 160) hx hb (hts (.arrayClass .int) (by decide +kernel)) (ty := .int) rfl hK hP hD hS hA (fun _ => rfl) (by decide) (by decide) (by decide) (show 0 + 1 + 1 + 1 + 1 + 1 + 1 + 1 ≤ 8 by omega) (show 0 + 10 + 10 + 160 + 160 + 160 + 160 + 160 ≤ 1844 by omega) dX1_init_60 (fun q7 k7 H hK hP hD hS => ?_)
  have hK : va_K D vwCl [(k1, .boolean), (k2, .boolean), (k3, .boolean), (k4, .boolean), (k5, .int), (k6, .int), (k7, .int)] s := hK
  have hP : va_P D vwCl [(h0, .inr (1, [.int 0, .int 0, .ref q1, .ref q2, .ref q3, .ref q4, .ref q5, .ref q6, .null, .null, .int 0])), (q1, .inl (k1, 10, .inl (fun _ => 0))), (q2, .inl (k2, 10, .inl (fun _ => 0))), (q3, .inl (k3, 160, .inl (fun _ => 0))), (q4, .inl (k4, 160, .inl (fun _ => 0))), (q5, .inl (k5, 160, .inl (fun _ => 0))), (q6, .inl (k6, 160, .inl (fun _ => 0))), (q7, .inl (k7, 160, .inl (fun _ => 0)))] H := hP
  have hD : va_D A [(h0, .inr (1, [.int 0, .int 0, .ref q1, .ref q2, .ref q3, .ref q4, .ref q5, .ref q6, .null, .null, .int 0])), (q1, .inl (k1, 10, .inl (fun _ => 0))), (q2, .inl (k2, 10, .inl (fun _ => 0))), (q3, .inl (k3, 160, .inl (fun _ => 0))), (q4, .inl (k4, 160, .inl (fun _ => 0))), (q5, .inl (k5, 160, .inl (fun _ => 0))), (q6, .inl (k6, 160, .inl (fun _ => 0))), (q7, .inl (k7, 160, .inl (fun _ => 0)))] := hD
  refine va_putF (D := D) (ci := 1) (v := .ref q7) (ty := .array .int) (C := RX1) (T := TX1) (N := 11) hx hb hts hin0 tyX1 tyX1_ok nmX1 hown hK hP hD hS 0 rfl rfl 8 (by decide) (hts (.fieldLink RX1 29 "ClaimBenchModel" "keptTill" "[I") (by decide +kernel)) (fun _ h9 => h9) rfl hin rfl (by decide +kernel) rfl rfl (Nat.le_of_ble_eq_true rfl) dX1_init_62 (fun H locs hP hD hS => ?_)
  have hP : va_P D vwCl [(h0, .inr (1, [.int 0, .int 0, .ref q1, .ref q2, .ref q3, .ref q4, .ref q5, .ref q6, .ref q7, .null, .int 0])), (q1, .inl (k1, 10, .inl (fun _ => 0))), (q2, .inl (k2, 10, .inl (fun _ => 0))), (q3, .inl (k3, 160, .inl (fun _ => 0))), (q4, .inl (k4, 160, .inl (fun _ => 0))), (q5, .inl (k5, 160, .inl (fun _ => 0))), (q6, .inl (k6, 160, .inl (fun _ => 0))), (q7, .inl (k7, 160, .inl (fun _ => 0)))] H := hP
  have hD : va_D A [(h0, .inr (1, [.int 0, .int 0, .ref q1, .ref q2, .ref q3, .ref q4, .ref q5, .ref q6, .ref q7, .null, .int 0])), (q1, .inl (k1, 10, .inl (fun _ => 0))), (q2, .inl (k2, 10, .inl (fun _ => 0))), (q3, .inl (k3, 160, .inl (fun _ => 0))), (q4, .inl (k4, 160, .inl (fun _ => 0))), (q5, .inl (k5, 160, .inl (fun _ => 0))), (q6, .inl (k6, 160, .inl (fun _ => 0))), (q7, .inl (k7, 160, .inl (fun _ => 0)))] := hD
  refine lv_aload_n hx hb dX1_init_65 rfl (lv_at hl 0 rfl) ?_
  refine lv_sipush (v := nI 1024) hx hb dX1_init_66 (by decide) ?_
  refine va_newa (atype := .int) (n := nI 1024) (a0 := (1024, .inl (fun _ => 0))) (N' := 1024) hx hb (hts (.arrayClass .int) (by decide +kernel)) (ty := .int) rfl hK hP hD hS hA (fun _ => rfl) (by decide) (by decide) (by decide) (show 0 + 1 + 1 + 1 + 1 + 1 + 1 + 1 + 1 ≤ 8 by omega) (show 0 + 10 + 10 + 160 + 160 + 160 + 160 + 160 + 1024 ≤ 1844 by omega) dX1_init_69 (fun q8 k8 H hK hP hD hS => ?_)
  have hK : va_K D vwCl [(k1, .boolean), (k2, .boolean), (k3, .boolean), (k4, .boolean), (k5, .int), (k6, .int), (k7, .int), (k8, .int)] s := hK
  have hP : va_P D vwCl [(h0, .inr (1, [.int 0, .int 0, .ref q1, .ref q2, .ref q3, .ref q4, .ref q5, .ref q6, .ref q7, .null, .int 0])), (q1, .inl (k1, 10, .inl (fun _ => 0))), (q2, .inl (k2, 10, .inl (fun _ => 0))), (q3, .inl (k3, 160, .inl (fun _ => 0))), (q4, .inl (k4, 160, .inl (fun _ => 0))), (q5, .inl (k5, 160, .inl (fun _ => 0))), (q6, .inl (k6, 160, .inl (fun _ => 0))), (q7, .inl (k7, 160, .inl (fun _ => 0))), (q8, .inl (k8, 1024, .inl (fun _ => 0)))] H := hP
  have hD : va_D A [(h0, .inr (1, [.int 0, .int 0, .ref q1, .ref q2, .ref q3, .ref q4, .ref q5, .ref q6, .ref q7, .null, .int 0])), (q1, .inl (k1, 10, .inl (fun _ => 0))), (q2, .inl (k2, 10, .inl (fun _ => 0))), (q3, .inl (k3, 160, .inl (fun _ => 0))), (q4, .inl (k4, 160, .inl (fun _ => 0))), (q5, .inl (k5, 160, .inl (fun _ => 0))), (q6, .inl (k6, 160, .inl (fun _ => 0))), (q7, .inl (k7, 160, .inl (fun _ => 0))), (q8, .inl (k8, 1024, .inl (fun _ => 0)))] := hD
  refine va_putF (D := D) (ci := 1) (v := .ref q8) (ty := .array .int) (C := RX1) (T := TX1) (N := 11) hx hb hts hin0 tyX1 tyX1_ok nmX1 hown hK hP hD hS 0 rfl rfl 9 (by decide) (hts (.fieldLink RX1 32 "ClaimBenchModel" "row" "[I") (by decide +kernel)) (fun _ h9 => h9) rfl hin rfl (by decide +kernel) rfl rfl (Nat.le_of_ble_eq_true rfl) dX1_init_71 (fun H locs hP hD hS => ?_)
  have hP : va_P D vwCl [(h0, .inr (1, [.int 0, .int 0, .ref q1, .ref q2, .ref q3, .ref q4, .ref q5, .ref q6, .ref q7, .ref q8, .int 0])), (q1, .inl (k1, 10, .inl (fun _ => 0))), (q2, .inl (k2, 10, .inl (fun _ => 0))), (q3, .inl (k3, 160, .inl (fun _ => 0))), (q4, .inl (k4, 160, .inl (fun _ => 0))), (q5, .inl (k5, 160, .inl (fun _ => 0))), (q6, .inl (k6, 160, .inl (fun _ => 0))), (q7, .inl (k7, 160, .inl (fun _ => 0))), (q8, .inl (k8, 1024, .inl (fun _ => 0)))] H := hP
  have hD : va_D A [(h0, .inr (1, [.int 0, .int 0, .ref q1, .ref q2, .ref q3, .ref q4, .ref q5, .ref q6, .ref q7, .ref q8, .int 0])), (q1, .inl (k1, 10, .inl (fun _ => 0))), (q2, .inl (k2, 10, .inl (fun _ => 0))), (q3, .inl (k3, 160, .inl (fun _ => 0))), (q4, .inl (k4, 160, .inl (fun _ => 0))), (q5, .inl (k5, 160, .inl (fun _ => 0))), (q6, .inl (k6, 160, .inl (fun _ => 0))), (q7, .inl (k7, 160, .inl (fun _ => 0))), (q8, .inl (k8, 1024, .inl (fun _ => 0)))] := hD
  refine W.widen (k := 8) (n := 1844) (show 0 + 1 + 1 + 1 + 1 + 1 + 1 + 1 + 1 ≤ 8 by omega) (show 0 + 10 + 10 + 160 + 160 + 160 + 160 + 160 + 1024 ≤ 1844 by omega) ?_
  have hDg : ∀ g : Nat → Int32, va_D A [(h0, .inr (1, [.int 0, .int 0, .ref q1, .ref q2, .ref q3, .ref q4, .ref q5, .ref q6, .ref q7, .ref q8, .int 0])), (q1, .inl (k1, 10, .inl (fun _ => 0))), (q2, .inl (k2, 10, .inl (fun _ => 0))), (q3, .inl (k3, 160, .inl (fun _ => 0))), (q4, .inl (k4, 160, .inl (fun _ => 0))), (q5, .inl (k5, 160, .inl (fun _ => 0))), (q6, .inl (k6, 160, .inl g)), (q7, .inl (k7, 160, .inl (fun _ => 0))), (q8, .inl (k8, 1024, .inl (fun _ => 0)))] := fun g => hD.set (p := 6) rfl
  have loop : ∀ (n k : Nat), 160 < k + n → k ≤ 160 → ∀ (g : Nat → Int32) (H : Heap) (locs : List Loc), (∀ c, c < k → g c = -1) → va_P D vwCl [(h0, .inr (1, [.int 0, .int 0, .ref q1, .ref q2, .ref q3, .ref q4, .ref q5, .ref q6, .ref q7, .ref q8, .int 0])), (q1, .inl (k1, 10, .inl (fun _ => 0))), (q2, .inl (k2, 10, .inl (fun _ => 0))), (q3, .inl (k3, 160, .inl (fun _ => 0))), (q4, .inl (k4, 160, .inl (fun _ => 0))), (q5, .inl (k5, 160, .inl (fun _ => 0))), (q6, .inl (k6, 160, .inl g)), (q7, .inl (k7, 160, .inl (fun _ => 0))), (q8, .inl (k8, 1024, .inl (fun _ => 0)))] H → va_S A s.heap H locs → ∀ (ls : Array Slot), lv_has ls 2 [(1, .int (nI k)), (0, .ref h0)] → W p l e (headSpec wsX1_init ({ frames := 1, cells := 8, slots := 1844, locals := 12 })).room s m ([.ref h0] : List Value).toArray below meth c H locs 8 1844 (MQ below (va_Qv (fun _ : (Nat → Nat) × (Nat → ClassId) => True) (fun u t => u.1 0 = h0 ∧ va_P D vwCl (wM u.1 u.2 S0 0) t.heap ∧ va_K D vwCl (tyM u.2) t ∧ va_D A (wM u.1 u.2 S0 0)) A) ([.ref h0] : List Value).toArray s 8 1844 A) (F0 m 76 ls []) := by
    intro n
    induction n with
    | zero => exact fun r h1 h2 => absurd h1 (by omega)
    | succ n ih =>
      intro k hk1 hk2 g H locs hg hP hS ls hl
      refine lv_iload_n hx hb dX1_init_76 rfl (lv_at hl 0 rfl) ?_
      refine lv_sipush (v := nI 160) hx hb dX1_init_77 (by decide) ?_
      refine xx_ge (tgt := 96) hx hb dX1_init_80 (by decide) (by omega) (by omega) (fun hk3 => ?_) (fun hk3 => ?_)
      · exact W.vret hx hb hr (fun t ht hW => ⟨⟨(adM h0 q1 q2 q3 q4 q5 q6 q7 q8, ckM k1 k2 k3 k4 k5 k6 k7 k8), rfl, trivial, rfl, by rw [ht, wM_0]; exact va_Pext hP 6 (fun c => kM S0 c) rfl (fun c hc => hg c (by omega)), va_K.moved hW.alike hK, by rw [wM_0]; exact hDg _⟩, hS.F ht⟩) hS.2.2 dX1_init_96
      · refine lv_aload_n hx hb dX1_init_83 rfl (lv_at hl 1 rfl) ?_
        refine va_get (D := D) (ci := 1) (v := .ref q6) (C := RX1) (T := TX1) (N := 11) hx hb hts hin0 hown hK hP 0 rfl rfl 7 (by decide) (hts (.fieldLink RX1 26 "ClaimBenchModel" "keptClaim" "[I") (by decide +kernel)) (fun _ h9 => h9) rfl dX1_init_84 ?_
        refine lv_iload_n hx hb dX1_init_87 rfl (lv_at hl 0 rfl) ?_
        refine lv_iconst (v := -1) hx hb dX1_init_88 (by decide) ?_
        refine xx_ast hx hb hK hP (hDg g) hS 6 5 rfl rfl (j := k) (by omega) (by decide) (upd g k (-1)) rfl dX1_init_89 (fun H locs hP hS => ?_)
        have hP : va_P D vwCl [(h0, .inr (1, [.int 0, .int 0, .ref q1, .ref q2, .ref q3, .ref q4, .ref q5, .ref q6, .ref q7, .ref q8, .int 0])), (q1, .inl (k1, 10, .inl (fun _ => 0))), (q2, .inl (k2, 10, .inl (fun _ => 0))), (q3, .inl (k3, 160, .inl (fun _ => 0))), (q4, .inl (k4, 160, .inl (fun _ => 0))), (q5, .inl (k5, 160, .inl (fun _ => 0))), (q6, .inl (k6, 160, .inl (upd g k (-1)))), (q7, .inl (k7, 160, .inl (fun _ => 0))), (q8, .inl (k8, 1024, .inl (fun _ => 0)))] H := hP
        refine lv_iinc (v := nI (k + 1)) (lv' := [(1, .int (nI (k + 1))), (0, .ref h0)]) hx hb dX1_init_90 hl (k := 0) rfl (nI_1 _) (by decide) rfl (fun ls hl => ?_)
        refine lv_goto (tgt := 76) hx hb dX1_init_93 (by decide) ?_
        refine ih (k + 1) (by omega) (by omega) _ H locs (fun c hc => ?_) hP hS ls (lv_sub hl [0, 1] rfl)
        unfold upd
        by_cases hc2 : c = k
        · rw [if_pos hc2]
        · rw [if_neg hc2]; exact hg c (by omega)
  refine lv_iconst (v := nI 0) hx hb dX1_init_74 (by decide) ?_
  refine lv_istore_n (lv' := [(1, .int (nI 0)), (0, .ref h0)]) hx hb dX1_init_75 rfl hl (by decide) rfl (fun ls hl => ?_)
  exact loop 161 0 (by omega) (by omega) (fun _ => 0) H locs (fun c hc => absurd hc (by omega)) hP hS ls (lv_sub hl [0, 1] rfl)
end
section
/-! THE CLAIM OUT OF ONE WALK OF THE LAW'S BODY. Your part is whole_start (and what it stands on); all else here is the same for every law, but numbers. -/
def R_law : String := "ClaimBenchLaw"
def lw_P (b : Addr) (xs : List Int32) (args : Array Value) (s : State) : Prop := args = #[.ref b] ∧ s.IntsAt b xs ∧ xs.length ≤ 2560 ∧ (Jvm.Cond.and given_1 narrow_1).before args s = true
def lw_Q (_ : Array Value) (s : State) (o : Outcome) (t : State) : Prop := o = .returned (some (.int 1)) ∧ Framed s o t [] 15 3384
def lw_Z (below : List Frame) (a : Array Value) (s : State) : State → Prop := fun t => ∃ o, t.status = .running ∧ Ended t below o ∧ lw_Q a s o t
/-- the law's own end, with 1 on the stack, nothing written that was there before, its room as the claim has it -/
theorem lw_ret {p : Program} {l : Launch} {e : Env} {s : State} {m : MethodId} {below : List Frame} {meth : Method} {c : Code} {b : Nat} (hx : p.tables.exec = Jvm.exec) (hb : c.code = code) (hr : meth.sig.returnType = ret) (hlocks : meth.locks = false) {pc : Nat} {H : Heap} {ls : Array Slot} (hdg : decode code pc = .ok (.ireturn, 1)) : W p l e room_1 s m #[Value.ref b] below meth c H [] 15 3384 (lw_Z below #[Value.ref b] s) (F0 m pc ls [.int 1]) := by
  intro T hT X
  obtain ⟨fs, hret, hrun, hended, hW, hframe⟩ := X.leave (v := some (.int 1)) (hlocks := hlocks) (fun h => by rw [hr] at h; cases h)
  have hmeth' : T.vm.method? m = some meth := X.method'
  refine ⟨T.setFrames fs, ?_, .returned (some (.int 1)), hrun, hended, rfl, ⟨_, rfl⟩, hW, hframe⟩
  jvm_step X.here [X.here.top, hx, hb, hdg, hmeth', hr, ret, narrow_b1]
  (try refine ⟨rfl, ?_⟩); (try refine ⟨rfl, ?_⟩)
  first | (intro acts; rw [hret _ acts rfl rfl rfl]) | rw [hret _ _ rfl rfl rfl]
  exact Steps.refl _
/-- what holds at the law's entry: the machine, the code, the tables' words (any of lw_tbl by 'hts w (by decide +kernel)'), the script of L ints xs at the cell b, what the Statement gives of the start (any of its parts by flat_of_before) -/
def lw_At (p : Program) (s : State) (m : MethodId) (meth : Method) (c : Code) (b L : Nat) (xs : Nat → Int32) : Prop :=
  p.tables.exec = Jvm.exec ∧ c.code = code ∧ meth.sig.returnType = ret ∧ c.maxLocals = 4 ∧ s.vm.findClass R_law = some m.cls ∧ (∀ w ∈ lw_tbl, w.before #[Value.ref b] s = true) ∧ va_X b L xs s s.heap ∧ b < s.heap.size ∧ meth.locks = false ∧ (Jvm.Cond.and given_1 narrow_1).before #[Value.ref b] s = true
end
section
-- ===== what stays between the calls =====
theorem iv_tick {S : AS} (hi : iv S) (x : Int32) : iv (pTick S x) := by
  unfold pTick
  split
  · rename_i h
    unfold okT at h
    simp at h
    exact ⟨h.2.2, hi.2⟩
  · exact hi
theorem iv_ps2 {f : Nat → Nat → AS} {d : AS} (hd : iv d) (hf : ∀ r z, r < 10 → z < 16 → iv (f r z)) (x y : Int32) : iv (ps2 f d x y) := by
  unfold ps2
  split
  · rename_i h
    obtain ⟨h1, h2⟩ := (Bool.and_eq_true _ _).mp h
    obtain ⟨r, hr, rfl⟩ := inR_t (by decide) h1
    obtain ⟨z, hz, rfl⟩ := inR_t (by decide) h2
    rw [nI_clamp (by omega), nI_clamp (by omega)]
    exact hf r z hr hz
  · exact hd
theorem iv_ps1 {f : Nat → AS} {d : AS} (hd : iv d) (hf : ∀ r, iv (f r)) (x : Int32) : iv (ps1 10 f d x) := by
  unfold ps1
  split
  · exact hf _
  · exact hd
theorem iv_fw {S : AS} (hi : iv S) (x y : Int32) (b : Bool) : iv (pFw S x y b) := iv_ps2 (f := fun r z => uF S (upF (sF S) r z b)) hi (fun _ _ _ _ => hi) x y
theorem iv_th {S : AS} (hi : iv S) (x : Int32) (b : Bool) : iv (pTh S x b) := iv_ps1 (f := fun r => uG S (upB (sG S) r (!b))) hi (fun _ => hi) x
theorem iv_df {S : AS} (hi : iv S) (x : Int32) (b : Bool) : iv (pDf S x b) := iv_ps1 (f := fun r => uD S (upB (sD S) r b)) hi (fun _ => hi) x
theorem iv_pl {S : AS} (hi : iv S) (x y d : Int32) (b : Bool) : iv (pPl S x y d b) := by
  unfold pPl
  split
  · rename_i h
    obtain ⟨k, hk, rfl⟩ := inR_t (by decide) h
    rw [nI_clamp (by omega)]
    refine iv_ps2 hi (fun r z _ _ => ?_) x y
    refine ⟨hi.1, fun c => ?_, hi.2.2⟩
    show upN (sI S) (16 * r + z) k c ≤ 9999
    unfold upN
    split
    · omega
    · exact hi.2.1 c
  · exact hi
theorem iv_dt {S : AS} (hi : iv S) (x y : Int32) : iv (pDt S x y) := iv_ps2 hi (fun r z _ hz => by
  show iv (if sG S r then S else pData S r z)
  split
  · exact hi
  · exact data_iv hi hz) x y
theorem i_le {L i : Nat} (hL : L ≤ 2560) (hi : i ≤ 2560) (h : ¬ nI L - nI 5 < nI i) : i + 5 ≤ L := by
  have h1 : (nI L - nI 5).toInt = (L : Int) - (5 : Nat) := pk_sub_toInt (by omega) (by decide)
  have h2 : (nI i).toInt = (i : Int) := nI_toInt (by omega)
  rw [Int32.lt_iff_toInt_lt, h1, h2] at h
  omega
theorem i_5 (i : Nat) : nI i + Int32.ofInt 5 = nI (i + 5) := nI_add i 5
/-- the addresses of both, apart -/
theorem two_D {A : Nat → Prop} {ad bd : Nat → Nat} {ck dk : Nat → ClassId} {S : AS} {a a' : Nat} (h : va_D A (wB ad ck S a ++ wM bd dk S a')) : apt 6 ad ∧ apt 9 bd ∧ (∀ q, aB ad q → ¬ aM bd q) ∧ (∀ q, aB ad q → A q) ∧ ∀ q, aM bd q → A q := by
  have kB : ∀ i, i < 6 → ∃ e, (wB ad ck S a ++ wM bd dk S a')[i]? = some (ad i, e) := by
    intro i hi
    match i, hi with
    | 0, _ => exact ⟨_, rfl⟩
    | 1, _ => exact ⟨_, rfl⟩
    | 2, _ => exact ⟨_, rfl⟩
    | 3, _ => exact ⟨_, rfl⟩
    | 4, _ => exact ⟨_, rfl⟩
    | 5, _ => exact ⟨_, rfl⟩
  have kM : ∀ i, i < 9 → ∃ e, (wB ad ck S a ++ wM bd dk S a')[6 + i]? = some (bd i, e) := by
    intro i hi
    match i, hi with
    | 0, _ => exact ⟨_, rfl⟩
    | 1, _ => exact ⟨_, rfl⟩
    | 2, _ => exact ⟨_, rfl⟩
    | 3, _ => exact ⟨_, rfl⟩
    | 4, _ => exact ⟨_, rfl⟩
    | 5, _ => exact ⟨_, rfl⟩
    | 6, _ => exact ⟨_, rfl⟩
    | 7, _ => exact ⟨_, rfl⟩
    | 8, _ => exact ⟨_, rfl⟩
  refine ⟨fun i j hi hj e => ?_, fun i j hi hj e => ?_, fun q h1 h2 => ?_, fun q h1 => ?_, fun q h1 => ?_⟩
  · obtain ⟨e1, h1⟩ := kB i hi
    obtain ⟨e2, h2⟩ := kB j hj
    exact h.1 i j _ _ h1 h2 e
  · obtain ⟨e1, h1⟩ := kM i hi
    obtain ⟨e2, h2⟩ := kM j hj
    have := h.1 _ _ _ _ h1 h2 e
    omega
  · obtain ⟨i, hi, rfl⟩ := h1
    obtain ⟨j, hj, e⟩ := h2
    obtain ⟨e1, h1⟩ := kB i hi
    obtain ⟨e2, h2⟩ := kM j hj
    have := h.1 _ _ _ _ h1 h2 e
    omega
  · obtain ⟨i, hi, rfl⟩ := h1
    obtain ⟨e1, h1⟩ := kB i hi
    exact h.2 _ _ h1
  · obtain ⟨i, hi, rfl⟩ := h1
    obtain ⟨e1, h1⟩ := kM i hi
    exact h.2 _ _ h1
theorem keepM {D : va_G} {ad bd : Nat → Nat} {dk : Nat → ClassId} {S : AS} {a : Nat} {H H1 : Heap} (hd : apt 9 bd) (hj : ∀ q, aB ad q → ¬ aM bd q) (hP : va_P D vwCl (wM bd dk S a) H) (hk : ∀ q : Nat, q < H.size → ¬ aB ad q → H1[q]? = H[q]?) : va_P D vwCl (wM bd dk S a) H1 :=
  hP.kept (fun k q hq => hk q.1 (hP k q hq).lt (fun h => hj q.1 h ((dM hd dk S a).2 k q hq)))
theorem keepB {D : va_G} {ad bd : Nat → Nat} {ck : Nat → ClassId} {S : AS} {a : Nat} {H H1 : Heap} (hd : apt 6 ad) (hj : ∀ q, aB ad q → ¬ aM bd q) (hP : va_P D vwCl (wB ad ck S a) H) (hk : ∀ q : Nat, q < H.size → ¬ aM bd q → H1[q]? = H[q]?) : va_P D vwCl (wB ad ck S a) H1 :=
  hP.kept (fun k q hq => hk q.1 (hP k q hq).lt (fun h => hj q.1 ((dB hd ck S a).2 k q hq) h))
section VL
variable {p : Program} {l : Launch} {e : Env} {R : Room} {s : State} {m : MethodId} {args : Array Value} {below : List Frame} {meth : Method} {c : Code} {H : Heap} {locs : List Loc} {cells slots : Nat} {Q : State → Prop}
variable {cc : ByteArray} {pc : Nat} {ls : Array Slot} {rest : List Value} {A : Nat → Prop} {H0 : Heap}
theorem xx_sld (hexec : p.tables.exec = Jvm.exec) (hb : c.code = cc) {b L : Nat} {xs : Nat → Int32} (hX : va_X b L xs s H0) (hbl : b < H0.size) (hbA : ¬ A b) (hS : va_S A H0 H locs) {j : Nat} (hj : j < L) (hL : L ≤ 2560) (hdg : decode cc pc = .ok (.iaload, 1))
    (kk : W p l e R s m args below meth c H locs cells slots Q (F0 m (pc + 1) ls (.int (xs j) :: rest))) : W p l e R s m args below meth c H locs cells slots Q (F0 m pc ls (.int (nI j) :: .ref b :: rest)) :=
  va_sld hexec hb hX hbl hbA hS (vp_in_nI hj (by omega)) hdg (by rw [nI_clamp (by omega)]; exact kk)
end VL
/-- the law's walk -/
abbrev LW (p : Program) (l : Launch) (e : Env) (s : State) (m : MethodId) (b : Nat) (below : List Frame) (meth : Method) (c : Code) (H : Heap) (locs : List Loc) (g : JFrame) : Prop := W p l e room_1 s m #[Value.ref b] below meth c H locs 15 3384 (lw_Z below #[Value.ref b] s) g
abbrev LV (ls : Array Slot) (b : Nat) (ad bd : Nat → Nat) (i : Nat) : Prop := lv_has ls 4 [(3, .int (nI i)), (0, .ref b), (1, .ref (ad 0)), (2, .ref (bd 0))]
/-- what stays in the law's loop -/
def LC (s : State) (D : va_G) (ad bd : Nat → Nat) (ck dk : Nat → ClassId) : Prop := apt 6 ad ∧ apt 9 bd ∧ (∀ q, aB ad q → ¬ aM bd q) ∧ (∀ q, aB ad q → s.heap.size ≤ q) ∧ (∀ q, aM bd q → s.heap.size ≤ q) ∧ va_K D vwCl (tyB ck) s ∧ va_K D vwCl (tyM dk) s
set_option maxHeartbeats 4000000 in
set_option maxRecDepth 100000 in
theorem law_tick {p : Program} {l : Launch} {e : Env} {s : State} {m : MethodId} {below : List Frame} {meth : Method} {c : Code} {D : va_G} {b L : Nat} {xs : Nat → Int32} (hL : L ≤ 2560) (C0 : lw_At p s m meth c b L xs) {ad bd : Nat → Nat} {ck dk : Nat → ClassId} (C1 : LC s D ad bd ck dk) {i : Nat} (h5 : i + 5 ≤ L) (k9 : ∀ (S : AS) (a : Nat), iv S → ∀ (H : Heap) (locs : List Loc), va_P D vwCl (wB ad ck S a) H → va_P D vwCl (wM bd dk S a) H → va_S (fun q : Nat => s.heap.size ≤ q) s.heap H locs → ∀ (ls : Array Slot), LV ls b ad bd i → LW p l e s m b below meth c H locs (F0 m 546 ls [])) (S : AS) (a : Nat) (hi : iv S) (H : Heap) (locs : List Loc) (hPB : va_P D vwCl (wB ad ck S a) H) (hPM : va_P D vwCl (wM bd dk S a) H) (hS : va_S (fun q : Nat => s.heap.size ≤ q) s.heap H locs) (ls : Array Slot) (hl : LV ls b ad bd i) : LW p l e s m b below meth c H locs (F0 m 96 ls []) := by
  obtain ⟨hx, hb, hr, hml, hown, hts, hX, hbl, hlocks, hgv⟩ := C0
  obtain ⟨hdB, hdM, hdj, hAB, hAM, hKB, hKM⟩ := C1
  have hown : s.vm.findClass RL = some m.cls := hown
  have hts : ∀ w ∈ wsL_law, w.before #[Value.ref b] s = true := fun w h => hts w (wsL_law_in w h)
  have hbA : ¬ (fun q : Nat => s.heap.size ≤ q) b := Nat.not_le.mpr hbl
  refine lv_aload_n hx hb dL_law_96 rfl (lv_at hl 2 rfl) ?_
  refine lv_aload_n hx hb dL_law_97 rfl (lv_at hl 1 rfl) ?_
  refine lv_iload_n hx hb dL_law_98 rfl (lv_at hl 0 rfl) ?_
  refine lv_iconst (v := nI 1) hx hb dL_law_99 (by decide) ?_
  refine xx_add hx hb dL_law_100 ?_
  refine xx_sld hx hb hX hbl hbA hS (j := i + 1) (by omega) hL dL_law_101 ?_
  refine xx_callM (W.runV (As := [.int (xs (i + 1))]) (rest := []) ⟨hx, hb, hml, hown, hts⟩ (c0_tick l D ad hdB ck S a hi (xs (i + 1))) (cwV 1 hts gL_law_X0_tick rfl rfl rfl (by decide +kernel) ⟨Nat.le_of_ble_eq_true rfl, Nat.le_of_ble_eq_true rfl⟩) (PW_pre hKB hPB (ci := 0) rfl rfl) rfl rfl hl.1 rfl (lv_room (Nat.le_of_ble_eq_true rfl)) dL_law_102 ⟨show 15 + 0 ≤ 15 by omega, show 3384 + 0 ≤ 3384 by omega⟩) hS (fun q h => hAB q h) (fun H1 locs1 hP1 hk1 hS1 => ?_)
  have hPM := keepM hdM hdj hPM hk1
  have hPB := hP1
  have hS := hS1
  refine W.eq (g2 := F0 m 105 ls [.int (aTick S (xs (i + 1)))]) rfl ?_
  refine lv_aload_n hx hb dL_law_105 rfl (lv_at hl 3 rfl) ?_
  refine lv_aload_n hx hb dL_law_106 rfl (lv_at hl 1 rfl) ?_
  refine lv_iload_n hx hb dL_law_107 rfl (lv_at hl 0 rfl) ?_
  refine lv_iconst (v := nI 1) hx hb dL_law_108 (by decide) ?_
  refine xx_add hx hb dL_law_109 ?_
  refine xx_sld hx hb hX hbl hbA hS (j := i + 1) (by omega) hL dL_law_110 ?_
  refine xx_callM (W.runV (As := [.int (xs (i + 1))]) (rest := [.int (aTick S (xs (i + 1)))]) ⟨hx, hb, hml, hown, hts⟩ (c1_tick l D bd hdM dk S a hi (xs (i + 1))) (cwV 1 hts gL_law_X1_tick rfl rfl rfl (by decide +kernel) ⟨Nat.le_of_ble_eq_true rfl, Nat.le_of_ble_eq_true rfl⟩) (PW_pre hKM hPM (ci := 1) rfl rfl) rfl rfl hl.1 rfl (lv_room (Nat.le_of_ble_eq_true rfl)) dL_law_111 ⟨show 15 + 0 ≤ 15 by omega, show 3384 + 0 ≤ 3384 by omega⟩) hS (fun q h => hAM q h) (fun H1 locs1 hP1 hk1 hS1 => ?_)
  have hPB := keepB hdB hdj hPB hk1
  have hPM := hP1
  have hS := hS1
  refine W.eq (g2 := F0 m 114 ls [.int (aTick S (xs (i + 1))), .int (aTick S (xs (i + 1)))]) rfl ?_
  refine lv_icmp_eq (tgt := 546) hx hb dL_law_114 (by decide) (fun _ => ?_) (fun h => absurd rfl h)
  exact k9 (pTick S (xs (i + 1))) (a) (iv_tick hi (xs (i + 1))) H1 locs1 hPB hPM hS ls hl
set_option maxHeartbeats 4000000 in
set_option maxRecDepth 100000 in
theorem law_forward {p : Program} {l : Launch} {e : Env} {s : State} {m : MethodId} {below : List Frame} {meth : Method} {c : Code} {D : va_G} {b L : Nat} {xs : Nat → Int32} (hL : L ≤ 2560) (C0 : lw_At p s m meth c b L xs) {ad bd : Nat → Nat} {ck dk : Nat → ClassId} (C1 : LC s D ad bd ck dk) {i : Nat} (h5 : i + 5 ≤ L) (k9 : ∀ (S : AS) (a : Nat), iv S → ∀ (H : Heap) (locs : List Loc), va_P D vwCl (wB ad ck S a) H → va_P D vwCl (wM bd dk S a) H → va_S (fun q : Nat => s.heap.size ≤ q) s.heap H locs → ∀ (ls : Array Slot), LV ls b ad bd i → LW p l e s m b below meth c H locs (F0 m 546 ls [])) (S : AS) (a : Nat) (hi : iv S) (H : Heap) (locs : List Loc) (hPB : va_P D vwCl (wB ad ck S a) H) (hPM : va_P D vwCl (wM bd dk S a) H) (hS : va_S (fun q : Nat => s.heap.size ≤ q) s.heap H locs) (ls : Array Slot) (hl : LV ls b ad bd i) : LW p l e s m b below meth c H locs (F0 m 119 ls []) := by
  obtain ⟨hx, hb, hr, hml, hown, hts, hX, hbl, hlocks, hgv⟩ := C0
  obtain ⟨hdB, hdM, hdj, hAB, hAM, hKB, hKM⟩ := C1
  have hown : s.vm.findClass RL = some m.cls := hown
  have hts : ∀ w ∈ wsL_law, w.before #[Value.ref b] s = true := fun w h => hts w (wsL_law_in w h)
  have hbA : ¬ (fun q : Nat => s.heap.size ≤ q) b := Nat.not_le.mpr hbl
  by_cases e9 : xs (i + 3) = 0
  · skip
    refine lv_aload_n hx hb dL_law_119 rfl (lv_at hl 2 rfl) ?_
    refine lv_aload_n hx hb dL_law_120 rfl (lv_at hl 1 rfl) ?_
    refine lv_iload_n hx hb dL_law_121 rfl (lv_at hl 0 rfl) ?_
    refine lv_iconst (v := nI 1) hx hb dL_law_122 (by decide) ?_
    refine xx_add hx hb dL_law_123 ?_
    refine xx_sld hx hb hX hbl hbA hS (j := i + 1) (by omega) hL dL_law_124 ?_
    refine lv_aload_n hx hb dL_law_125 rfl (lv_at hl 1 rfl) ?_
    refine lv_iload_n hx hb dL_law_126 rfl (lv_at hl 0 rfl) ?_
    refine lv_iconst (v := nI 2) hx hb dL_law_127 (by decide) ?_
    refine xx_add hx hb dL_law_128 ?_
    refine xx_sld hx hb hX hbl hbA hS (j := i + 2) (by omega) hL dL_law_129 ?_
    refine lv_aload_n hx hb dL_law_130 rfl (lv_at hl 1 rfl) ?_
    refine lv_iload_n hx hb dL_law_131 rfl (lv_at hl 0 rfl) ?_
    refine lv_iconst (v := nI 3) hx hb dL_law_132 (by decide) ?_
    refine xx_add hx hb dL_law_133 ?_
    refine xx_sld hx hb hX hbl hbA hS (j := i + 3) (by omega) hL dL_law_134 ?_
    refine lv_if_eq (tgt := 142) hx hb dL_law_135 (by decide) (fun _ => ?_) (fun h => absurd e9 h)
    refine lv_iconst (v := nI 0) hx hb dL_law_142 (by decide) ?_
    refine xx_callM (W.runV (As := [.int (xs (i + 1)), .int (xs (i + 2)), .int (bI (false))]) (rest := []) ⟨hx, hb, hml, hown, hts⟩ (c0_forward l D ad hdB ck S a hi (xs (i + 1)) (xs (i + 2)) false) (cwV 3 hts gL_law_X0_forward rfl rfl rfl (by decide +kernel) ⟨Nat.le_of_ble_eq_true rfl, Nat.le_of_ble_eq_true rfl⟩) (PW_pre hKB hPB (ci := 0) rfl rfl) rfl rfl hl.1 rfl (lv_room (Nat.le_of_ble_eq_true rfl)) dL_law_143 ⟨show 15 + 0 ≤ 15 by omega, show 3384 + 0 ≤ 3384 by omega⟩) hS (fun q h => hAB q h) (fun H1 locs1 hP1 hk1 hS1 => ?_)
    have hPM := keepM hdM hdj hPM hk1
    have hPB := hP1
    have hS := hS1
    refine W.eq (g2 := F0 m 146 ls [.int (aFw (xs (i + 1)) (xs (i + 2)))]) rfl ?_
    refine lv_aload_n hx hb dL_law_146 rfl (lv_at hl 3 rfl) ?_
    refine lv_aload_n hx hb dL_law_147 rfl (lv_at hl 1 rfl) ?_
    refine lv_iload_n hx hb dL_law_148 rfl (lv_at hl 0 rfl) ?_
    refine lv_iconst (v := nI 1) hx hb dL_law_149 (by decide) ?_
    refine xx_add hx hb dL_law_150 ?_
    refine xx_sld hx hb hX hbl hbA hS (j := i + 1) (by omega) hL dL_law_151 ?_
    refine lv_aload_n hx hb dL_law_152 rfl (lv_at hl 1 rfl) ?_
    refine lv_iload_n hx hb dL_law_153 rfl (lv_at hl 0 rfl) ?_
    refine lv_iconst (v := nI 2) hx hb dL_law_154 (by decide) ?_
    refine xx_add hx hb dL_law_155 ?_
    refine xx_sld hx hb hX hbl hbA hS (j := i + 2) (by omega) hL dL_law_156 ?_
    refine lv_aload_n hx hb dL_law_157 rfl (lv_at hl 1 rfl) ?_
    refine lv_iload_n hx hb dL_law_158 rfl (lv_at hl 0 rfl) ?_
    refine lv_iconst (v := nI 3) hx hb dL_law_159 (by decide) ?_
    refine xx_add hx hb dL_law_160 ?_
    refine xx_sld hx hb hX hbl hbA hS (j := i + 3) (by omega) hL dL_law_161 ?_
    refine lv_if_eq (tgt := 169) hx hb dL_law_162 (by decide) (fun _ => ?_) (fun h => absurd e9 h)
    refine lv_iconst (v := nI 0) hx hb dL_law_169 (by decide) ?_
    refine xx_callM (W.runV (As := [.int (xs (i + 1)), .int (xs (i + 2)), .int (bI (false))]) (rest := [.int (aFw (xs (i + 1)) (xs (i + 2)))]) ⟨hx, hb, hml, hown, hts⟩ (c1_forward l D bd hdM dk S a hi (xs (i + 1)) (xs (i + 2)) false) (cwV 3 hts gL_law_X1_forward rfl rfl rfl (by decide +kernel) ⟨Nat.le_of_ble_eq_true rfl, Nat.le_of_ble_eq_true rfl⟩) (PW_pre hKM hPM (ci := 1) rfl rfl) rfl rfl hl.1 rfl (lv_room (Nat.le_of_ble_eq_true rfl)) dL_law_170 ⟨show 15 + 0 ≤ 15 by omega, show 3384 + 0 ≤ 3384 by omega⟩) hS (fun q h => hAM q h) (fun H1 locs1 hP1 hk1 hS1 => ?_)
    have hPB := keepB hdB hdj hPB hk1
    have hPM := hP1
    have hS := hS1
    refine W.eq (g2 := F0 m 173 ls [.int (aFw (xs (i + 1)) (xs (i + 2))), .int (aFw (xs (i + 1)) (xs (i + 2)))]) rfl ?_
    refine lv_icmp_eq (tgt := 546) hx hb dL_law_173 (by decide) (fun _ => ?_) (fun h => absurd rfl h)
    exact k9 (pFw S (xs (i + 1)) (xs (i + 2)) false) (a) (iv_fw hi (xs (i + 1)) (xs (i + 2)) false) H1 locs1 hPB hPM hS ls hl
  · skip
    refine lv_aload_n hx hb dL_law_119 rfl (lv_at hl 2 rfl) ?_
    refine lv_aload_n hx hb dL_law_120 rfl (lv_at hl 1 rfl) ?_
    refine lv_iload_n hx hb dL_law_121 rfl (lv_at hl 0 rfl) ?_
    refine lv_iconst (v := nI 1) hx hb dL_law_122 (by decide) ?_
    refine xx_add hx hb dL_law_123 ?_
    refine xx_sld hx hb hX hbl hbA hS (j := i + 1) (by omega) hL dL_law_124 ?_
    refine lv_aload_n hx hb dL_law_125 rfl (lv_at hl 1 rfl) ?_
    refine lv_iload_n hx hb dL_law_126 rfl (lv_at hl 0 rfl) ?_
    refine lv_iconst (v := nI 2) hx hb dL_law_127 (by decide) ?_
    refine xx_add hx hb dL_law_128 ?_
    refine xx_sld hx hb hX hbl hbA hS (j := i + 2) (by omega) hL dL_law_129 ?_
    refine lv_aload_n hx hb dL_law_130 rfl (lv_at hl 1 rfl) ?_
    refine lv_iload_n hx hb dL_law_131 rfl (lv_at hl 0 rfl) ?_
    refine lv_iconst (v := nI 3) hx hb dL_law_132 (by decide) ?_
    refine xx_add hx hb dL_law_133 ?_
    refine xx_sld hx hb hX hbl hbA hS (j := i + 3) (by omega) hL dL_law_134 ?_
    refine lv_if_eq (tgt := 142) hx hb dL_law_135 (by decide) (fun h => absurd h e9) (fun _ => ?_)
    refine lv_iconst (v := nI 1) hx hb dL_law_138 (by decide) ?_
    refine lv_goto (tgt := 143) hx hb dL_law_139 (by decide) ?_
    refine xx_callM (W.runV (As := [.int (xs (i + 1)), .int (xs (i + 2)), .int (bI (true))]) (rest := []) ⟨hx, hb, hml, hown, hts⟩ (c0_forward l D ad hdB ck S a hi (xs (i + 1)) (xs (i + 2)) true) (cwV 3 hts gL_law_X0_forward rfl rfl rfl (by decide +kernel) ⟨Nat.le_of_ble_eq_true rfl, Nat.le_of_ble_eq_true rfl⟩) (PW_pre hKB hPB (ci := 0) rfl rfl) rfl rfl hl.1 rfl (lv_room (Nat.le_of_ble_eq_true rfl)) dL_law_143 ⟨show 15 + 0 ≤ 15 by omega, show 3384 + 0 ≤ 3384 by omega⟩) hS (fun q h => hAB q h) (fun H1 locs1 hP1 hk1 hS1 => ?_)
    have hPM := keepM hdM hdj hPM hk1
    have hPB := hP1
    have hS := hS1
    refine W.eq (g2 := F0 m 146 ls [.int (aFw (xs (i + 1)) (xs (i + 2)))]) rfl ?_
    refine lv_aload_n hx hb dL_law_146 rfl (lv_at hl 3 rfl) ?_
    refine lv_aload_n hx hb dL_law_147 rfl (lv_at hl 1 rfl) ?_
    refine lv_iload_n hx hb dL_law_148 rfl (lv_at hl 0 rfl) ?_
    refine lv_iconst (v := nI 1) hx hb dL_law_149 (by decide) ?_
    refine xx_add hx hb dL_law_150 ?_
    refine xx_sld hx hb hX hbl hbA hS (j := i + 1) (by omega) hL dL_law_151 ?_
    refine lv_aload_n hx hb dL_law_152 rfl (lv_at hl 1 rfl) ?_
    refine lv_iload_n hx hb dL_law_153 rfl (lv_at hl 0 rfl) ?_
    refine lv_iconst (v := nI 2) hx hb dL_law_154 (by decide) ?_
    refine xx_add hx hb dL_law_155 ?_
    refine xx_sld hx hb hX hbl hbA hS (j := i + 2) (by omega) hL dL_law_156 ?_
    refine lv_aload_n hx hb dL_law_157 rfl (lv_at hl 1 rfl) ?_
    refine lv_iload_n hx hb dL_law_158 rfl (lv_at hl 0 rfl) ?_
    refine lv_iconst (v := nI 3) hx hb dL_law_159 (by decide) ?_
    refine xx_add hx hb dL_law_160 ?_
    refine xx_sld hx hb hX hbl hbA hS (j := i + 3) (by omega) hL dL_law_161 ?_
    refine lv_if_eq (tgt := 169) hx hb dL_law_162 (by decide) (fun h => absurd h e9) (fun _ => ?_)
    refine lv_iconst (v := nI 1) hx hb dL_law_165 (by decide) ?_
    refine lv_goto (tgt := 170) hx hb dL_law_166 (by decide) ?_
    refine xx_callM (W.runV (As := [.int (xs (i + 1)), .int (xs (i + 2)), .int (bI (true))]) (rest := [.int (aFw (xs (i + 1)) (xs (i + 2)))]) ⟨hx, hb, hml, hown, hts⟩ (c1_forward l D bd hdM dk S a hi (xs (i + 1)) (xs (i + 2)) true) (cwV 3 hts gL_law_X1_forward rfl rfl rfl (by decide +kernel) ⟨Nat.le_of_ble_eq_true rfl, Nat.le_of_ble_eq_true rfl⟩) (PW_pre hKM hPM (ci := 1) rfl rfl) rfl rfl hl.1 rfl (lv_room (Nat.le_of_ble_eq_true rfl)) dL_law_170 ⟨show 15 + 0 ≤ 15 by omega, show 3384 + 0 ≤ 3384 by omega⟩) hS (fun q h => hAM q h) (fun H1 locs1 hP1 hk1 hS1 => ?_)
    have hPB := keepB hdB hdj hPB hk1
    have hPM := hP1
    have hS := hS1
    refine W.eq (g2 := F0 m 173 ls [.int (aFw (xs (i + 1)) (xs (i + 2))), .int (aFw (xs (i + 1)) (xs (i + 2)))]) rfl ?_
    refine lv_icmp_eq (tgt := 546) hx hb dL_law_173 (by decide) (fun _ => ?_) (fun h => absurd rfl h)
    exact k9 (pFw S (xs (i + 1)) (xs (i + 2)) true) (a) (iv_fw hi (xs (i + 1)) (xs (i + 2)) true) H1 locs1 hPB hPM hS ls hl
set_option maxHeartbeats 4000000 in
set_option maxRecDepth 100000 in
theorem law_place {p : Program} {l : Launch} {e : Env} {s : State} {m : MethodId} {below : List Frame} {meth : Method} {c : Code} {D : va_G} {b L : Nat} {xs : Nat → Int32} (hL : L ≤ 2560) (C0 : lw_At p s m meth c b L xs) {ad bd : Nat → Nat} {ck dk : Nat → ClassId} (C1 : LC s D ad bd ck dk) {i : Nat} (h5 : i + 5 ≤ L) (k9 : ∀ (S : AS) (a : Nat), iv S → ∀ (H : Heap) (locs : List Loc), va_P D vwCl (wB ad ck S a) H → va_P D vwCl (wM bd dk S a) H → va_S (fun q : Nat => s.heap.size ≤ q) s.heap H locs → ∀ (ls : Array Slot), LV ls b ad bd i → LW p l e s m b below meth c H locs (F0 m 546 ls [])) (S : AS) (a : Nat) (hi : iv S) (H : Heap) (locs : List Loc) (hPB : va_P D vwCl (wB ad ck S a) H) (hPM : va_P D vwCl (wM bd dk S a) H) (hS : va_S (fun q : Nat => s.heap.size ≤ q) s.heap H locs) (ls : Array Slot) (hl : LV ls b ad bd i) : LW p l e s m b below meth c H locs (F0 m 178 ls []) := by
  obtain ⟨hx, hb, hr, hml, hown, hts, hX, hbl, hlocks, hgv⟩ := C0
  obtain ⟨hdB, hdM, hdj, hAB, hAM, hKB, hKM⟩ := C1
  have hown : s.vm.findClass RL = some m.cls := hown
  have hts : ∀ w ∈ wsL_law, w.before #[Value.ref b] s = true := fun w h => hts w (wsL_law_in w h)
  have hbA : ¬ (fun q : Nat => s.heap.size ≤ q) b := Nat.not_le.mpr hbl
  by_cases e9 : xs (i + 3) = 0
  · skip
    refine lv_aload_n hx hb dL_law_178 rfl (lv_at hl 2 rfl) ?_
    refine lv_aload_n hx hb dL_law_179 rfl (lv_at hl 1 rfl) ?_
    refine lv_iload_n hx hb dL_law_180 rfl (lv_at hl 0 rfl) ?_
    refine lv_iconst (v := nI 1) hx hb dL_law_181 (by decide) ?_
    refine xx_add hx hb dL_law_182 ?_
    refine xx_sld hx hb hX hbl hbA hS (j := i + 1) (by omega) hL dL_law_183 ?_
    refine lv_aload_n hx hb dL_law_184 rfl (lv_at hl 1 rfl) ?_
    refine lv_iload_n hx hb dL_law_185 rfl (lv_at hl 0 rfl) ?_
    refine lv_iconst (v := nI 2) hx hb dL_law_186 (by decide) ?_
    refine xx_add hx hb dL_law_187 ?_
    refine xx_sld hx hb hX hbl hbA hS (j := i + 2) (by omega) hL dL_law_188 ?_
    refine lv_aload_n hx hb dL_law_189 rfl (lv_at hl 1 rfl) ?_
    refine lv_iload_n hx hb dL_law_190 rfl (lv_at hl 0 rfl) ?_
    refine lv_iconst (v := nI 3) hx hb dL_law_191 (by decide) ?_
    refine xx_add hx hb dL_law_192 ?_
    refine xx_sld hx hb hX hbl hbA hS (j := i + 3) (by omega) hL dL_law_193 ?_
    refine lv_if_eq (tgt := 201) hx hb dL_law_194 (by decide) (fun _ => ?_) (fun h => absurd e9 h)
    refine lv_iconst (v := nI 0) hx hb dL_law_201 (by decide) ?_
    refine lv_aload_n hx hb dL_law_202 rfl (lv_at hl 1 rfl) ?_
    refine lv_iload_n hx hb dL_law_203 rfl (lv_at hl 0 rfl) ?_
    refine lv_iconst (v := nI 4) hx hb dL_law_204 (by decide) ?_
    refine xx_add hx hb dL_law_205 ?_
    refine xx_sld hx hb hX hbl hbA hS (j := i + 4) (by omega) hL dL_law_206 ?_
    refine xx_callM (W.runV (As := [.int (xs (i + 1)), .int (xs (i + 2)), .int (bI (false)), .int (xs (i + 4))]) (rest := []) ⟨hx, hb, hml, hown, hts⟩ (c0_place l D ad hdB ck S a hi (xs (i + 1)) (xs (i + 2)) false (xs (i + 4))) (cwV 4 hts gL_law_X0_place rfl rfl rfl (by decide +kernel) ⟨Nat.le_of_ble_eq_true rfl, Nat.le_of_ble_eq_true rfl⟩) (PW_pre hKB hPB (ci := 0) rfl rfl) rfl rfl hl.1 rfl (lv_room (Nat.le_of_ble_eq_true rfl)) dL_law_207 ⟨show 15 + 0 ≤ 15 by omega, show 3384 + 0 ≤ 3384 by omega⟩) hS (fun q h => hAB q h) (fun H1 locs1 hP1 hk1 hS1 => ?_)
    have hPM := keepM hdM hdj hPM hk1
    have hPB := hP1
    have hS := hS1
    refine W.eq (g2 := F0 m 210 ls [.int (aPl (xs (i + 1)) (xs (i + 2)) (xs (i + 4)))]) rfl ?_
    refine lv_aload_n hx hb dL_law_210 rfl (lv_at hl 3 rfl) ?_
    refine lv_aload_n hx hb dL_law_211 rfl (lv_at hl 1 rfl) ?_
    refine lv_iload_n hx hb dL_law_212 rfl (lv_at hl 0 rfl) ?_
    refine lv_iconst (v := nI 1) hx hb dL_law_213 (by decide) ?_
    refine xx_add hx hb dL_law_214 ?_
    refine xx_sld hx hb hX hbl hbA hS (j := i + 1) (by omega) hL dL_law_215 ?_
    refine lv_aload_n hx hb dL_law_216 rfl (lv_at hl 1 rfl) ?_
    refine lv_iload_n hx hb dL_law_217 rfl (lv_at hl 0 rfl) ?_
    refine lv_iconst (v := nI 2) hx hb dL_law_218 (by decide) ?_
    refine xx_add hx hb dL_law_219 ?_
    refine xx_sld hx hb hX hbl hbA hS (j := i + 2) (by omega) hL dL_law_220 ?_
    refine lv_aload_n hx hb dL_law_221 rfl (lv_at hl 1 rfl) ?_
    refine lv_iload_n hx hb dL_law_222 rfl (lv_at hl 0 rfl) ?_
    refine lv_iconst (v := nI 3) hx hb dL_law_223 (by decide) ?_
    refine xx_add hx hb dL_law_224 ?_
    refine xx_sld hx hb hX hbl hbA hS (j := i + 3) (by omega) hL dL_law_225 ?_
    refine lv_if_eq (tgt := 233) hx hb dL_law_226 (by decide) (fun _ => ?_) (fun h => absurd e9 h)
    refine lv_iconst (v := nI 0) hx hb dL_law_233 (by decide) ?_
    refine lv_aload_n hx hb dL_law_234 rfl (lv_at hl 1 rfl) ?_
    refine lv_iload_n hx hb dL_law_235 rfl (lv_at hl 0 rfl) ?_
    refine lv_iconst (v := nI 4) hx hb dL_law_236 (by decide) ?_
    refine xx_add hx hb dL_law_237 ?_
    refine xx_sld hx hb hX hbl hbA hS (j := i + 4) (by omega) hL dL_law_238 ?_
    refine xx_callM (W.runV (As := [.int (xs (i + 1)), .int (xs (i + 2)), .int (bI (false)), .int (xs (i + 4))]) (rest := [.int (aPl (xs (i + 1)) (xs (i + 2)) (xs (i + 4)))]) ⟨hx, hb, hml, hown, hts⟩ (c1_place l D bd hdM dk S a hi (xs (i + 1)) (xs (i + 2)) false (xs (i + 4))) (cwV 4 hts gL_law_X1_place rfl rfl rfl (by decide +kernel) ⟨Nat.le_of_ble_eq_true rfl, Nat.le_of_ble_eq_true rfl⟩) (PW_pre hKM hPM (ci := 1) rfl rfl) rfl rfl hl.1 rfl (lv_room (Nat.le_of_ble_eq_true rfl)) dL_law_239 ⟨show 15 + 0 ≤ 15 by omega, show 3384 + 0 ≤ 3384 by omega⟩) hS (fun q h => hAM q h) (fun H1 locs1 hP1 hk1 hS1 => ?_)
    have hPB := keepB hdB hdj hPB hk1
    have hPM := hP1
    have hS := hS1
    refine W.eq (g2 := F0 m 242 ls [.int (aPl (xs (i + 1)) (xs (i + 2)) (xs (i + 4))), .int (aPl (xs (i + 1)) (xs (i + 2)) (xs (i + 4)))]) rfl ?_
    refine lv_icmp_eq (tgt := 546) hx hb dL_law_242 (by decide) (fun _ => ?_) (fun h => absurd rfl h)
    exact k9 (pPl S (xs (i + 1)) (xs (i + 2)) (xs (i + 4)) false) (a) (iv_pl hi (xs (i + 1)) (xs (i + 2)) (xs (i + 4)) false) H1 locs1 hPB hPM hS ls hl
  · skip
    refine lv_aload_n hx hb dL_law_178 rfl (lv_at hl 2 rfl) ?_
    refine lv_aload_n hx hb dL_law_179 rfl (lv_at hl 1 rfl) ?_
    refine lv_iload_n hx hb dL_law_180 rfl (lv_at hl 0 rfl) ?_
    refine lv_iconst (v := nI 1) hx hb dL_law_181 (by decide) ?_
    refine xx_add hx hb dL_law_182 ?_
    refine xx_sld hx hb hX hbl hbA hS (j := i + 1) (by omega) hL dL_law_183 ?_
    refine lv_aload_n hx hb dL_law_184 rfl (lv_at hl 1 rfl) ?_
    refine lv_iload_n hx hb dL_law_185 rfl (lv_at hl 0 rfl) ?_
    refine lv_iconst (v := nI 2) hx hb dL_law_186 (by decide) ?_
    refine xx_add hx hb dL_law_187 ?_
    refine xx_sld hx hb hX hbl hbA hS (j := i + 2) (by omega) hL dL_law_188 ?_
    refine lv_aload_n hx hb dL_law_189 rfl (lv_at hl 1 rfl) ?_
    refine lv_iload_n hx hb dL_law_190 rfl (lv_at hl 0 rfl) ?_
    refine lv_iconst (v := nI 3) hx hb dL_law_191 (by decide) ?_
    refine xx_add hx hb dL_law_192 ?_
    refine xx_sld hx hb hX hbl hbA hS (j := i + 3) (by omega) hL dL_law_193 ?_
    refine lv_if_eq (tgt := 201) hx hb dL_law_194 (by decide) (fun h => absurd h e9) (fun _ => ?_)
    refine lv_iconst (v := nI 1) hx hb dL_law_197 (by decide) ?_
    refine lv_goto (tgt := 202) hx hb dL_law_198 (by decide) ?_
    refine lv_aload_n hx hb dL_law_202 rfl (lv_at hl 1 rfl) ?_
    refine lv_iload_n hx hb dL_law_203 rfl (lv_at hl 0 rfl) ?_
    refine lv_iconst (v := nI 4) hx hb dL_law_204 (by decide) ?_
    refine xx_add hx hb dL_law_205 ?_
    refine xx_sld hx hb hX hbl hbA hS (j := i + 4) (by omega) hL dL_law_206 ?_
    refine xx_callM (W.runV (As := [.int (xs (i + 1)), .int (xs (i + 2)), .int (bI (true)), .int (xs (i + 4))]) (rest := []) ⟨hx, hb, hml, hown, hts⟩ (c0_place l D ad hdB ck S a hi (xs (i + 1)) (xs (i + 2)) true (xs (i + 4))) (cwV 4 hts gL_law_X0_place rfl rfl rfl (by decide +kernel) ⟨Nat.le_of_ble_eq_true rfl, Nat.le_of_ble_eq_true rfl⟩) (PW_pre hKB hPB (ci := 0) rfl rfl) rfl rfl hl.1 rfl (lv_room (Nat.le_of_ble_eq_true rfl)) dL_law_207 ⟨show 15 + 0 ≤ 15 by omega, show 3384 + 0 ≤ 3384 by omega⟩) hS (fun q h => hAB q h) (fun H1 locs1 hP1 hk1 hS1 => ?_)
    have hPM := keepM hdM hdj hPM hk1
    have hPB := hP1
    have hS := hS1
    refine W.eq (g2 := F0 m 210 ls [.int (aPl (xs (i + 1)) (xs (i + 2)) (xs (i + 4)))]) rfl ?_
    refine lv_aload_n hx hb dL_law_210 rfl (lv_at hl 3 rfl) ?_
    refine lv_aload_n hx hb dL_law_211 rfl (lv_at hl 1 rfl) ?_
    refine lv_iload_n hx hb dL_law_212 rfl (lv_at hl 0 rfl) ?_
    refine lv_iconst (v := nI 1) hx hb dL_law_213 (by decide) ?_
    refine xx_add hx hb dL_law_214 ?_
    refine xx_sld hx hb hX hbl hbA hS (j := i + 1) (by omega) hL dL_law_215 ?_
    refine lv_aload_n hx hb dL_law_216 rfl (lv_at hl 1 rfl) ?_
    refine lv_iload_n hx hb dL_law_217 rfl (lv_at hl 0 rfl) ?_
    refine lv_iconst (v := nI 2) hx hb dL_law_218 (by decide) ?_
    refine xx_add hx hb dL_law_219 ?_
    refine xx_sld hx hb hX hbl hbA hS (j := i + 2) (by omega) hL dL_law_220 ?_
    refine lv_aload_n hx hb dL_law_221 rfl (lv_at hl 1 rfl) ?_
    refine lv_iload_n hx hb dL_law_222 rfl (lv_at hl 0 rfl) ?_
    refine lv_iconst (v := nI 3) hx hb dL_law_223 (by decide) ?_
    refine xx_add hx hb dL_law_224 ?_
    refine xx_sld hx hb hX hbl hbA hS (j := i + 3) (by omega) hL dL_law_225 ?_
    refine lv_if_eq (tgt := 233) hx hb dL_law_226 (by decide) (fun h => absurd h e9) (fun _ => ?_)
    refine lv_iconst (v := nI 1) hx hb dL_law_229 (by decide) ?_
    refine lv_goto (tgt := 234) hx hb dL_law_230 (by decide) ?_
    refine lv_aload_n hx hb dL_law_234 rfl (lv_at hl 1 rfl) ?_
    refine lv_iload_n hx hb dL_law_235 rfl (lv_at hl 0 rfl) ?_
    refine lv_iconst (v := nI 4) hx hb dL_law_236 (by decide) ?_
    refine xx_add hx hb dL_law_237 ?_
    refine xx_sld hx hb hX hbl hbA hS (j := i + 4) (by omega) hL dL_law_238 ?_
    refine xx_callM (W.runV (As := [.int (xs (i + 1)), .int (xs (i + 2)), .int (bI (true)), .int (xs (i + 4))]) (rest := [.int (aPl (xs (i + 1)) (xs (i + 2)) (xs (i + 4)))]) ⟨hx, hb, hml, hown, hts⟩ (c1_place l D bd hdM dk S a hi (xs (i + 1)) (xs (i + 2)) true (xs (i + 4))) (cwV 4 hts gL_law_X1_place rfl rfl rfl (by decide +kernel) ⟨Nat.le_of_ble_eq_true rfl, Nat.le_of_ble_eq_true rfl⟩) (PW_pre hKM hPM (ci := 1) rfl rfl) rfl rfl hl.1 rfl (lv_room (Nat.le_of_ble_eq_true rfl)) dL_law_239 ⟨show 15 + 0 ≤ 15 by omega, show 3384 + 0 ≤ 3384 by omega⟩) hS (fun q h => hAM q h) (fun H1 locs1 hP1 hk1 hS1 => ?_)
    have hPB := keepB hdB hdj hPB hk1
    have hPM := hP1
    have hS := hS1
    refine W.eq (g2 := F0 m 242 ls [.int (aPl (xs (i + 1)) (xs (i + 2)) (xs (i + 4))), .int (aPl (xs (i + 1)) (xs (i + 2)) (xs (i + 4)))]) rfl ?_
    refine lv_icmp_eq (tgt := 546) hx hb dL_law_242 (by decide) (fun _ => ?_) (fun h => absurd rfl h)
    exact k9 (pPl S (xs (i + 1)) (xs (i + 2)) (xs (i + 4)) true) (a) (iv_pl hi (xs (i + 1)) (xs (i + 2)) (xs (i + 4)) true) H1 locs1 hPB hPM hS ls hl
set_option maxHeartbeats 4000000 in
set_option maxRecDepth 100000 in
theorem law_there {p : Program} {l : Launch} {e : Env} {s : State} {m : MethodId} {below : List Frame} {meth : Method} {c : Code} {D : va_G} {b L : Nat} {xs : Nat → Int32} (hL : L ≤ 2560) (C0 : lw_At p s m meth c b L xs) {ad bd : Nat → Nat} {ck dk : Nat → ClassId} (C1 : LC s D ad bd ck dk) {i : Nat} (h5 : i + 5 ≤ L) (k9 : ∀ (S : AS) (a : Nat), iv S → ∀ (H : Heap) (locs : List Loc), va_P D vwCl (wB ad ck S a) H → va_P D vwCl (wM bd dk S a) H → va_S (fun q : Nat => s.heap.size ≤ q) s.heap H locs → ∀ (ls : Array Slot), LV ls b ad bd i → LW p l e s m b below meth c H locs (F0 m 546 ls [])) (S : AS) (a : Nat) (hi : iv S) (H : Heap) (locs : List Loc) (hPB : va_P D vwCl (wB ad ck S a) H) (hPM : va_P D vwCl (wM bd dk S a) H) (hS : va_S (fun q : Nat => s.heap.size ≤ q) s.heap H locs) (ls : Array Slot) (hl : LV ls b ad bd i) : LW p l e s m b below meth c H locs (F0 m 247 ls []) := by
  obtain ⟨hx, hb, hr, hml, hown, hts, hX, hbl, hlocks, hgv⟩ := C0
  obtain ⟨hdB, hdM, hdj, hAB, hAM, hKB, hKM⟩ := C1
  have hown : s.vm.findClass RL = some m.cls := hown
  have hts : ∀ w ∈ wsL_law, w.before #[Value.ref b] s = true := fun w h => hts w (wsL_law_in w h)
  have hbA : ¬ (fun q : Nat => s.heap.size ≤ q) b := Nat.not_le.mpr hbl
  by_cases e9 : xs (i + 2) = 0
  · skip
    refine lv_aload_n hx hb dL_law_247 rfl (lv_at hl 2 rfl) ?_
    refine lv_aload_n hx hb dL_law_248 rfl (lv_at hl 1 rfl) ?_
    refine lv_iload_n hx hb dL_law_249 rfl (lv_at hl 0 rfl) ?_
    refine lv_iconst (v := nI 1) hx hb dL_law_250 (by decide) ?_
    refine xx_add hx hb dL_law_251 ?_
    refine xx_sld hx hb hX hbl hbA hS (j := i + 1) (by omega) hL dL_law_252 ?_
    refine lv_aload_n hx hb dL_law_253 rfl (lv_at hl 1 rfl) ?_
    refine lv_iload_n hx hb dL_law_254 rfl (lv_at hl 0 rfl) ?_
    refine lv_iconst (v := nI 2) hx hb dL_law_255 (by decide) ?_
    refine xx_add hx hb dL_law_256 ?_
    refine xx_sld hx hb hX hbl hbA hS (j := i + 2) (by omega) hL dL_law_257 ?_
    refine lv_if_eq (tgt := 265) hx hb dL_law_258 (by decide) (fun _ => ?_) (fun h => absurd e9 h)
    refine lv_iconst (v := nI 0) hx hb dL_law_265 (by decide) ?_
    refine xx_callM (W.runV (As := [.int (xs (i + 1)), .int (bI (false))]) (rest := []) ⟨hx, hb, hml, hown, hts⟩ (c0_there l D ad hdB ck S a hi (xs (i + 1)) false) (cwV 2 hts gL_law_X0_there rfl rfl rfl (by decide +kernel) ⟨Nat.le_of_ble_eq_true rfl, Nat.le_of_ble_eq_true rfl⟩) (PW_pre hKB hPB (ci := 0) rfl rfl) rfl rfl hl.1 rfl (lv_room (Nat.le_of_ble_eq_true rfl)) dL_law_266 ⟨show 15 + 0 ≤ 15 by omega, show 3384 + 0 ≤ 3384 by omega⟩) hS (fun q h => hAB q h) (fun H1 locs1 hP1 hk1 hS1 => ?_)
    have hPM := keepM hdM hdj hPM hk1
    have hPB := hP1
    have hS := hS1
    refine W.eq (g2 := F0 m 269 ls [.int (aTh S (xs (i + 1)))]) rfl ?_
    refine lv_aload_n hx hb dL_law_269 rfl (lv_at hl 3 rfl) ?_
    refine lv_aload_n hx hb dL_law_270 rfl (lv_at hl 1 rfl) ?_
    refine lv_iload_n hx hb dL_law_271 rfl (lv_at hl 0 rfl) ?_
    refine lv_iconst (v := nI 1) hx hb dL_law_272 (by decide) ?_
    refine xx_add hx hb dL_law_273 ?_
    refine xx_sld hx hb hX hbl hbA hS (j := i + 1) (by omega) hL dL_law_274 ?_
    refine lv_aload_n hx hb dL_law_275 rfl (lv_at hl 1 rfl) ?_
    refine lv_iload_n hx hb dL_law_276 rfl (lv_at hl 0 rfl) ?_
    refine lv_iconst (v := nI 2) hx hb dL_law_277 (by decide) ?_
    refine xx_add hx hb dL_law_278 ?_
    refine xx_sld hx hb hX hbl hbA hS (j := i + 2) (by omega) hL dL_law_279 ?_
    refine lv_if_eq (tgt := 287) hx hb dL_law_280 (by decide) (fun _ => ?_) (fun h => absurd e9 h)
    refine lv_iconst (v := nI 0) hx hb dL_law_287 (by decide) ?_
    refine xx_callM (W.runV (As := [.int (xs (i + 1)), .int (bI (false))]) (rest := [.int (aTh S (xs (i + 1)))]) ⟨hx, hb, hml, hown, hts⟩ (c1_there l D bd hdM dk S a hi (xs (i + 1)) false) (cwV 2 hts gL_law_X1_there rfl rfl rfl (by decide +kernel) ⟨Nat.le_of_ble_eq_true rfl, Nat.le_of_ble_eq_true rfl⟩) (PW_pre hKM hPM (ci := 1) rfl rfl) rfl rfl hl.1 rfl (lv_room (Nat.le_of_ble_eq_true rfl)) dL_law_288 ⟨show 15 + 0 ≤ 15 by omega, show 3384 + 0 ≤ 3384 by omega⟩) hS (fun q h => hAM q h) (fun H1 locs1 hP1 hk1 hS1 => ?_)
    have hPB := keepB hdB hdj hPB hk1
    have hPM := hP1
    have hS := hS1
    refine W.eq (g2 := F0 m 291 ls [.int (aTh S (xs (i + 1))), .int (aTh S (xs (i + 1)))]) rfl ?_
    refine lv_icmp_eq (tgt := 546) hx hb dL_law_291 (by decide) (fun _ => ?_) (fun h => absurd rfl h)
    exact k9 (pTh S (xs (i + 1)) false) (a) (iv_th hi (xs (i + 1)) false) H1 locs1 hPB hPM hS ls hl
  · skip
    refine lv_aload_n hx hb dL_law_247 rfl (lv_at hl 2 rfl) ?_
    refine lv_aload_n hx hb dL_law_248 rfl (lv_at hl 1 rfl) ?_
    refine lv_iload_n hx hb dL_law_249 rfl (lv_at hl 0 rfl) ?_
    refine lv_iconst (v := nI 1) hx hb dL_law_250 (by decide) ?_
    refine xx_add hx hb dL_law_251 ?_
    refine xx_sld hx hb hX hbl hbA hS (j := i + 1) (by omega) hL dL_law_252 ?_
    refine lv_aload_n hx hb dL_law_253 rfl (lv_at hl 1 rfl) ?_
    refine lv_iload_n hx hb dL_law_254 rfl (lv_at hl 0 rfl) ?_
    refine lv_iconst (v := nI 2) hx hb dL_law_255 (by decide) ?_
    refine xx_add hx hb dL_law_256 ?_
    refine xx_sld hx hb hX hbl hbA hS (j := i + 2) (by omega) hL dL_law_257 ?_
    refine lv_if_eq (tgt := 265) hx hb dL_law_258 (by decide) (fun h => absurd h e9) (fun _ => ?_)
    refine lv_iconst (v := nI 1) hx hb dL_law_261 (by decide) ?_
    refine lv_goto (tgt := 266) hx hb dL_law_262 (by decide) ?_
    refine xx_callM (W.runV (As := [.int (xs (i + 1)), .int (bI (true))]) (rest := []) ⟨hx, hb, hml, hown, hts⟩ (c0_there l D ad hdB ck S a hi (xs (i + 1)) true) (cwV 2 hts gL_law_X0_there rfl rfl rfl (by decide +kernel) ⟨Nat.le_of_ble_eq_true rfl, Nat.le_of_ble_eq_true rfl⟩) (PW_pre hKB hPB (ci := 0) rfl rfl) rfl rfl hl.1 rfl (lv_room (Nat.le_of_ble_eq_true rfl)) dL_law_266 ⟨show 15 + 0 ≤ 15 by omega, show 3384 + 0 ≤ 3384 by omega⟩) hS (fun q h => hAB q h) (fun H1 locs1 hP1 hk1 hS1 => ?_)
    have hPM := keepM hdM hdj hPM hk1
    have hPB := hP1
    have hS := hS1
    refine W.eq (g2 := F0 m 269 ls [.int (aTh S (xs (i + 1)))]) rfl ?_
    refine lv_aload_n hx hb dL_law_269 rfl (lv_at hl 3 rfl) ?_
    refine lv_aload_n hx hb dL_law_270 rfl (lv_at hl 1 rfl) ?_
    refine lv_iload_n hx hb dL_law_271 rfl (lv_at hl 0 rfl) ?_
    refine lv_iconst (v := nI 1) hx hb dL_law_272 (by decide) ?_
    refine xx_add hx hb dL_law_273 ?_
    refine xx_sld hx hb hX hbl hbA hS (j := i + 1) (by omega) hL dL_law_274 ?_
    refine lv_aload_n hx hb dL_law_275 rfl (lv_at hl 1 rfl) ?_
    refine lv_iload_n hx hb dL_law_276 rfl (lv_at hl 0 rfl) ?_
    refine lv_iconst (v := nI 2) hx hb dL_law_277 (by decide) ?_
    refine xx_add hx hb dL_law_278 ?_
    refine xx_sld hx hb hX hbl hbA hS (j := i + 2) (by omega) hL dL_law_279 ?_
    refine lv_if_eq (tgt := 287) hx hb dL_law_280 (by decide) (fun h => absurd h e9) (fun _ => ?_)
    refine lv_iconst (v := nI 1) hx hb dL_law_283 (by decide) ?_
    refine lv_goto (tgt := 288) hx hb dL_law_284 (by decide) ?_
    refine xx_callM (W.runV (As := [.int (xs (i + 1)), .int (bI (true))]) (rest := [.int (aTh S (xs (i + 1)))]) ⟨hx, hb, hml, hown, hts⟩ (c1_there l D bd hdM dk S a hi (xs (i + 1)) true) (cwV 2 hts gL_law_X1_there rfl rfl rfl (by decide +kernel) ⟨Nat.le_of_ble_eq_true rfl, Nat.le_of_ble_eq_true rfl⟩) (PW_pre hKM hPM (ci := 1) rfl rfl) rfl rfl hl.1 rfl (lv_room (Nat.le_of_ble_eq_true rfl)) dL_law_288 ⟨show 15 + 0 ≤ 15 by omega, show 3384 + 0 ≤ 3384 by omega⟩) hS (fun q h => hAM q h) (fun H1 locs1 hP1 hk1 hS1 => ?_)
    have hPB := keepB hdB hdj hPB hk1
    have hPM := hP1
    have hS := hS1
    refine W.eq (g2 := F0 m 291 ls [.int (aTh S (xs (i + 1))), .int (aTh S (xs (i + 1)))]) rfl ?_
    refine lv_icmp_eq (tgt := 546) hx hb dL_law_291 (by decide) (fun _ => ?_) (fun h => absurd rfl h)
    exact k9 (pTh S (xs (i + 1)) true) (a) (iv_th hi (xs (i + 1)) true) H1 locs1 hPB hPM hS ls hl
set_option maxHeartbeats 4000000 in
set_option maxRecDepth 100000 in
theorem law_deaf {p : Program} {l : Launch} {e : Env} {s : State} {m : MethodId} {below : List Frame} {meth : Method} {c : Code} {D : va_G} {b L : Nat} {xs : Nat → Int32} (hL : L ≤ 2560) (C0 : lw_At p s m meth c b L xs) {ad bd : Nat → Nat} {ck dk : Nat → ClassId} (C1 : LC s D ad bd ck dk) {i : Nat} (h5 : i + 5 ≤ L) (k9 : ∀ (S : AS) (a : Nat), iv S → ∀ (H : Heap) (locs : List Loc), va_P D vwCl (wB ad ck S a) H → va_P D vwCl (wM bd dk S a) H → va_S (fun q : Nat => s.heap.size ≤ q) s.heap H locs → ∀ (ls : Array Slot), LV ls b ad bd i → LW p l e s m b below meth c H locs (F0 m 546 ls [])) (S : AS) (a : Nat) (hi : iv S) (H : Heap) (locs : List Loc) (hPB : va_P D vwCl (wB ad ck S a) H) (hPM : va_P D vwCl (wM bd dk S a) H) (hS : va_S (fun q : Nat => s.heap.size ≤ q) s.heap H locs) (ls : Array Slot) (hl : LV ls b ad bd i) : LW p l e s m b below meth c H locs (F0 m 296 ls []) := by
  obtain ⟨hx, hb, hr, hml, hown, hts, hX, hbl, hlocks, hgv⟩ := C0
  obtain ⟨hdB, hdM, hdj, hAB, hAM, hKB, hKM⟩ := C1
  have hown : s.vm.findClass RL = some m.cls := hown
  have hts : ∀ w ∈ wsL_law, w.before #[Value.ref b] s = true := fun w h => hts w (wsL_law_in w h)
  have hbA : ¬ (fun q : Nat => s.heap.size ≤ q) b := Nat.not_le.mpr hbl
  by_cases e9 : xs (i + 2) = 0
  · skip
    refine lv_aload_n hx hb dL_law_296 rfl (lv_at hl 2 rfl) ?_
    refine lv_aload_n hx hb dL_law_297 rfl (lv_at hl 1 rfl) ?_
    refine lv_iload_n hx hb dL_law_298 rfl (lv_at hl 0 rfl) ?_
    refine lv_iconst (v := nI 1) hx hb dL_law_299 (by decide) ?_
    refine xx_add hx hb dL_law_300 ?_
    refine xx_sld hx hb hX hbl hbA hS (j := i + 1) (by omega) hL dL_law_301 ?_
    refine lv_aload_n hx hb dL_law_302 rfl (lv_at hl 1 rfl) ?_
    refine lv_iload_n hx hb dL_law_303 rfl (lv_at hl 0 rfl) ?_
    refine lv_iconst (v := nI 2) hx hb dL_law_304 (by decide) ?_
    refine xx_add hx hb dL_law_305 ?_
    refine xx_sld hx hb hX hbl hbA hS (j := i + 2) (by omega) hL dL_law_306 ?_
    refine lv_if_eq (tgt := 314) hx hb dL_law_307 (by decide) (fun _ => ?_) (fun h => absurd e9 h)
    refine lv_iconst (v := nI 0) hx hb dL_law_314 (by decide) ?_
    refine xx_callM (W.runV (As := [.int (xs (i + 1)), .int (bI (false))]) (rest := []) ⟨hx, hb, hml, hown, hts⟩ (c0_deaf l D ad hdB ck S a hi (xs (i + 1)) false) (cwV 2 hts gL_law_X0_deaf rfl rfl rfl (by decide +kernel) ⟨Nat.le_of_ble_eq_true rfl, Nat.le_of_ble_eq_true rfl⟩) (PW_pre hKB hPB (ci := 0) rfl rfl) rfl rfl hl.1 rfl (lv_room (Nat.le_of_ble_eq_true rfl)) dL_law_315 ⟨show 15 + 0 ≤ 15 by omega, show 3384 + 0 ≤ 3384 by omega⟩) hS (fun q h => hAB q h) (fun H1 locs1 hP1 hk1 hS1 => ?_)
    have hPM := keepM hdM hdj hPM hk1
    have hPB := hP1
    have hS := hS1
    refine W.eq (g2 := F0 m 318 ls [.int (aDf S (xs (i + 1)))]) rfl ?_
    refine lv_aload_n hx hb dL_law_318 rfl (lv_at hl 3 rfl) ?_
    refine lv_aload_n hx hb dL_law_319 rfl (lv_at hl 1 rfl) ?_
    refine lv_iload_n hx hb dL_law_320 rfl (lv_at hl 0 rfl) ?_
    refine lv_iconst (v := nI 1) hx hb dL_law_321 (by decide) ?_
    refine xx_add hx hb dL_law_322 ?_
    refine xx_sld hx hb hX hbl hbA hS (j := i + 1) (by omega) hL dL_law_323 ?_
    refine lv_aload_n hx hb dL_law_324 rfl (lv_at hl 1 rfl) ?_
    refine lv_iload_n hx hb dL_law_325 rfl (lv_at hl 0 rfl) ?_
    refine lv_iconst (v := nI 2) hx hb dL_law_326 (by decide) ?_
    refine xx_add hx hb dL_law_327 ?_
    refine xx_sld hx hb hX hbl hbA hS (j := i + 2) (by omega) hL dL_law_328 ?_
    refine lv_if_eq (tgt := 336) hx hb dL_law_329 (by decide) (fun _ => ?_) (fun h => absurd e9 h)
    refine lv_iconst (v := nI 0) hx hb dL_law_336 (by decide) ?_
    refine xx_callM (W.runV (As := [.int (xs (i + 1)), .int (bI (false))]) (rest := [.int (aDf S (xs (i + 1)))]) ⟨hx, hb, hml, hown, hts⟩ (c1_deaf l D bd hdM dk S a hi (xs (i + 1)) false) (cwV 2 hts gL_law_X1_deaf rfl rfl rfl (by decide +kernel) ⟨Nat.le_of_ble_eq_true rfl, Nat.le_of_ble_eq_true rfl⟩) (PW_pre hKM hPM (ci := 1) rfl rfl) rfl rfl hl.1 rfl (lv_room (Nat.le_of_ble_eq_true rfl)) dL_law_337 ⟨show 15 + 0 ≤ 15 by omega, show 3384 + 0 ≤ 3384 by omega⟩) hS (fun q h => hAM q h) (fun H1 locs1 hP1 hk1 hS1 => ?_)
    have hPB := keepB hdB hdj hPB hk1
    have hPM := hP1
    have hS := hS1
    refine W.eq (g2 := F0 m 340 ls [.int (aDf S (xs (i + 1))), .int (aDf S (xs (i + 1)))]) rfl ?_
    refine lv_icmp_eq (tgt := 546) hx hb dL_law_340 (by decide) (fun _ => ?_) (fun h => absurd rfl h)
    exact k9 (pDf S (xs (i + 1)) false) (a) (iv_df hi (xs (i + 1)) false) H1 locs1 hPB hPM hS ls hl
  · skip
    refine lv_aload_n hx hb dL_law_296 rfl (lv_at hl 2 rfl) ?_
    refine lv_aload_n hx hb dL_law_297 rfl (lv_at hl 1 rfl) ?_
    refine lv_iload_n hx hb dL_law_298 rfl (lv_at hl 0 rfl) ?_
    refine lv_iconst (v := nI 1) hx hb dL_law_299 (by decide) ?_
    refine xx_add hx hb dL_law_300 ?_
    refine xx_sld hx hb hX hbl hbA hS (j := i + 1) (by omega) hL dL_law_301 ?_
    refine lv_aload_n hx hb dL_law_302 rfl (lv_at hl 1 rfl) ?_
    refine lv_iload_n hx hb dL_law_303 rfl (lv_at hl 0 rfl) ?_
    refine lv_iconst (v := nI 2) hx hb dL_law_304 (by decide) ?_
    refine xx_add hx hb dL_law_305 ?_
    refine xx_sld hx hb hX hbl hbA hS (j := i + 2) (by omega) hL dL_law_306 ?_
    refine lv_if_eq (tgt := 314) hx hb dL_law_307 (by decide) (fun h => absurd h e9) (fun _ => ?_)
    refine lv_iconst (v := nI 1) hx hb dL_law_310 (by decide) ?_
    refine lv_goto (tgt := 315) hx hb dL_law_311 (by decide) ?_
    refine xx_callM (W.runV (As := [.int (xs (i + 1)), .int (bI (true))]) (rest := []) ⟨hx, hb, hml, hown, hts⟩ (c0_deaf l D ad hdB ck S a hi (xs (i + 1)) true) (cwV 2 hts gL_law_X0_deaf rfl rfl rfl (by decide +kernel) ⟨Nat.le_of_ble_eq_true rfl, Nat.le_of_ble_eq_true rfl⟩) (PW_pre hKB hPB (ci := 0) rfl rfl) rfl rfl hl.1 rfl (lv_room (Nat.le_of_ble_eq_true rfl)) dL_law_315 ⟨show 15 + 0 ≤ 15 by omega, show 3384 + 0 ≤ 3384 by omega⟩) hS (fun q h => hAB q h) (fun H1 locs1 hP1 hk1 hS1 => ?_)
    have hPM := keepM hdM hdj hPM hk1
    have hPB := hP1
    have hS := hS1
    refine W.eq (g2 := F0 m 318 ls [.int (aDf S (xs (i + 1)))]) rfl ?_
    refine lv_aload_n hx hb dL_law_318 rfl (lv_at hl 3 rfl) ?_
    refine lv_aload_n hx hb dL_law_319 rfl (lv_at hl 1 rfl) ?_
    refine lv_iload_n hx hb dL_law_320 rfl (lv_at hl 0 rfl) ?_
    refine lv_iconst (v := nI 1) hx hb dL_law_321 (by decide) ?_
    refine xx_add hx hb dL_law_322 ?_
    refine xx_sld hx hb hX hbl hbA hS (j := i + 1) (by omega) hL dL_law_323 ?_
    refine lv_aload_n hx hb dL_law_324 rfl (lv_at hl 1 rfl) ?_
    refine lv_iload_n hx hb dL_law_325 rfl (lv_at hl 0 rfl) ?_
    refine lv_iconst (v := nI 2) hx hb dL_law_326 (by decide) ?_
    refine xx_add hx hb dL_law_327 ?_
    refine xx_sld hx hb hX hbl hbA hS (j := i + 2) (by omega) hL dL_law_328 ?_
    refine lv_if_eq (tgt := 336) hx hb dL_law_329 (by decide) (fun h => absurd h e9) (fun _ => ?_)
    refine lv_iconst (v := nI 1) hx hb dL_law_332 (by decide) ?_
    refine lv_goto (tgt := 337) hx hb dL_law_333 (by decide) ?_
    refine xx_callM (W.runV (As := [.int (xs (i + 1)), .int (bI (true))]) (rest := [.int (aDf S (xs (i + 1)))]) ⟨hx, hb, hml, hown, hts⟩ (c1_deaf l D bd hdM dk S a hi (xs (i + 1)) true) (cwV 2 hts gL_law_X1_deaf rfl rfl rfl (by decide +kernel) ⟨Nat.le_of_ble_eq_true rfl, Nat.le_of_ble_eq_true rfl⟩) (PW_pre hKM hPM (ci := 1) rfl rfl) rfl rfl hl.1 rfl (lv_room (Nat.le_of_ble_eq_true rfl)) dL_law_337 ⟨show 15 + 0 ≤ 15 by omega, show 3384 + 0 ≤ 3384 by omega⟩) hS (fun q h => hAM q h) (fun H1 locs1 hP1 hk1 hS1 => ?_)
    have hPB := keepB hdB hdj hPB hk1
    have hPM := hP1
    have hS := hS1
    refine W.eq (g2 := F0 m 340 ls [.int (aDf S (xs (i + 1))), .int (aDf S (xs (i + 1)))]) rfl ?_
    refine lv_icmp_eq (tgt := 546) hx hb dL_law_340 (by decide) (fun _ => ?_) (fun h => absurd rfl h)
    exact k9 (pDf S (xs (i + 1)) true) (a) (iv_df hi (xs (i + 1)) true) H1 locs1 hPB hPM hS ls hl
set_option maxHeartbeats 4000000 in
set_option maxRecDepth 100000 in
theorem law_data {p : Program} {l : Launch} {e : Env} {s : State} {m : MethodId} {below : List Frame} {meth : Method} {c : Code} {D : va_G} {b L : Nat} {xs : Nat → Int32} (hL : L ≤ 2560) (C0 : lw_At p s m meth c b L xs) {ad bd : Nat → Nat} {ck dk : Nat → ClassId} (C1 : LC s D ad bd ck dk) {i : Nat} (h5 : i + 5 ≤ L) (k9 : ∀ (S : AS) (a : Nat), iv S → ∀ (H : Heap) (locs : List Loc), va_P D vwCl (wB ad ck S a) H → va_P D vwCl (wM bd dk S a) H → va_S (fun q : Nat => s.heap.size ≤ q) s.heap H locs → ∀ (ls : Array Slot), LV ls b ad bd i → LW p l e s m b below meth c H locs (F0 m 546 ls [])) (S : AS) (a : Nat) (hi : iv S) (H : Heap) (locs : List Loc) (hPB : va_P D vwCl (wB ad ck S a) H) (hPM : va_P D vwCl (wM bd dk S a) H) (hS : va_S (fun q : Nat => s.heap.size ≤ q) s.heap H locs) (ls : Array Slot) (hl : LV ls b ad bd i) : LW p l e s m b below meth c H locs (F0 m 345 ls []) := by
  obtain ⟨hx, hb, hr, hml, hown, hts, hX, hbl, hlocks, hgv⟩ := C0
  obtain ⟨hdB, hdM, hdj, hAB, hAM, hKB, hKM⟩ := C1
  have hown : s.vm.findClass RL = some m.cls := hown
  have hts : ∀ w ∈ wsL_law, w.before #[Value.ref b] s = true := fun w h => hts w (wsL_law_in w h)
  have hbA : ¬ (fun q : Nat => s.heap.size ≤ q) b := Nat.not_le.mpr hbl
  refine lv_aload_n hx hb dL_law_345 rfl (lv_at hl 2 rfl) ?_
  refine lv_aload_n hx hb dL_law_346 rfl (lv_at hl 1 rfl) ?_
  refine lv_iload_n hx hb dL_law_347 rfl (lv_at hl 0 rfl) ?_
  refine lv_iconst (v := nI 1) hx hb dL_law_348 (by decide) ?_
  refine xx_add hx hb dL_law_349 ?_
  refine xx_sld hx hb hX hbl hbA hS (j := i + 1) (by omega) hL dL_law_350 ?_
  refine lv_aload_n hx hb dL_law_351 rfl (lv_at hl 1 rfl) ?_
  refine lv_iload_n hx hb dL_law_352 rfl (lv_at hl 0 rfl) ?_
  refine lv_iconst (v := nI 2) hx hb dL_law_353 (by decide) ?_
  refine xx_add hx hb dL_law_354 ?_
  refine xx_sld hx hb hX hbl hbA hS (j := i + 2) (by omega) hL dL_law_355 ?_
  refine xx_callM (W.runV (As := [.int (xs (i + 1)), .int (xs (i + 2))]) (rest := []) ⟨hx, hb, hml, hown, hts⟩ (c0_data l D ad hdB ck S a hi (xs (i + 1)) (xs (i + 2))) (cwV 2 hts gL_law_X0_data rfl rfl rfl (by decide +kernel) ⟨Nat.le_of_ble_eq_true rfl, Nat.le_of_ble_eq_true rfl⟩) (PW_pre hKB hPB (ci := 0) rfl rfl) rfl rfl hl.1 rfl (lv_room (Nat.le_of_ble_eq_true rfl)) dL_law_356 ⟨show 15 + 0 ≤ 15 by omega, show 3384 + 0 ≤ 3384 by omega⟩) hS (fun q h => hAB q h) (fun H1 locs1 hP1 hk1 hS1 => ?_)
  have hPM := keepM hdM hdj hPM hk1
  have hPB := hP1
  have hS := hS1
  refine W.eq (g2 := F0 m 359 ls [.int (aData S (xs (i + 1)) (xs (i + 2)))]) rfl ?_
  refine lv_aload_n hx hb dL_law_359 rfl (lv_at hl 3 rfl) ?_
  refine lv_aload_n hx hb dL_law_360 rfl (lv_at hl 1 rfl) ?_
  refine lv_iload_n hx hb dL_law_361 rfl (lv_at hl 0 rfl) ?_
  refine lv_iconst (v := nI 1) hx hb dL_law_362 (by decide) ?_
  refine xx_add hx hb dL_law_363 ?_
  refine xx_sld hx hb hX hbl hbA hS (j := i + 1) (by omega) hL dL_law_364 ?_
  refine lv_aload_n hx hb dL_law_365 rfl (lv_at hl 1 rfl) ?_
  refine lv_iload_n hx hb dL_law_366 rfl (lv_at hl 0 rfl) ?_
  refine lv_iconst (v := nI 2) hx hb dL_law_367 (by decide) ?_
  refine xx_add hx hb dL_law_368 ?_
  refine xx_sld hx hb hX hbl hbA hS (j := i + 2) (by omega) hL dL_law_369 ?_
  refine xx_callM (W.runV (As := [.int (xs (i + 1)), .int (xs (i + 2))]) (rest := [.int (aData S (xs (i + 1)) (xs (i + 2)))]) ⟨hx, hb, hml, hown, hts⟩ (c1_data l D bd hdM dk S a hi (xs (i + 1)) (xs (i + 2))) (cwV 2 hts gL_law_X1_data rfl rfl rfl (by decide +kernel) ⟨Nat.le_of_ble_eq_true rfl, Nat.le_of_ble_eq_true rfl⟩) (PW_pre hKM hPM (ci := 1) rfl rfl) rfl rfl hl.1 rfl (lv_room (Nat.le_of_ble_eq_true rfl)) dL_law_370 ⟨show 15 + 0 ≤ 15 by omega, show 3384 + 0 ≤ 3384 by omega⟩) hS (fun q h => hAM q h) (fun H1 locs1 hP1 hk1 hS1 => ?_)
  have hPB := keepB hdB hdj hPB hk1
  have hPM := hP1
  have hS := hS1
  refine W.eq (g2 := F0 m 373 ls [.int (aData S (xs (i + 1)) (xs (i + 2))), .int (aData S (xs (i + 1)) (xs (i + 2)))]) rfl ?_
  refine lv_icmp_eq (tgt := 546) hx hb dL_law_373 (by decide) (fun _ => ?_) (fun h => absurd rfl h)
  exact k9 (pDt S (xs (i + 1)) (xs (i + 2))) (nDt S a (xs (i + 1)) (xs (i + 2))) (iv_dt hi (xs (i + 1)) (xs (i + 2))) H1 locs1 hPB hPM hS ls hl
set_option maxHeartbeats 4000000 in
set_option maxRecDepth 100000 in
theorem law_said {p : Program} {l : Launch} {e : Env} {s : State} {m : MethodId} {below : List Frame} {meth : Method} {c : Code} {D : va_G} {b L : Nat} {xs : Nat → Int32} (hL : L ≤ 2560) (C0 : lw_At p s m meth c b L xs) {ad bd : Nat → Nat} {ck dk : Nat → ClassId} (C1 : LC s D ad bd ck dk) {i : Nat} (h5 : i + 5 ≤ L) (k9 : ∀ (S : AS) (a : Nat), iv S → ∀ (H : Heap) (locs : List Loc), va_P D vwCl (wB ad ck S a) H → va_P D vwCl (wM bd dk S a) H → va_S (fun q : Nat => s.heap.size ≤ q) s.heap H locs → ∀ (ls : Array Slot), LV ls b ad bd i → LW p l e s m b below meth c H locs (F0 m 546 ls [])) (S : AS) (a : Nat) (hi : iv S) (H : Heap) (locs : List Loc) (hPB : va_P D vwCl (wB ad ck S a) H) (hPM : va_P D vwCl (wM bd dk S a) H) (hS : va_S (fun q : Nat => s.heap.size ≤ q) s.heap H locs) (ls : Array Slot) (hl : LV ls b ad bd i) : LW p l e s m b below meth c H locs (F0 m 378 ls []) := by
  obtain ⟨hx, hb, hr, hml, hown, hts, hX, hbl, hlocks, hgv⟩ := C0
  obtain ⟨hdB, hdM, hdj, hAB, hAM, hKB, hKM⟩ := C1
  have hown : s.vm.findClass RL = some m.cls := hown
  have hts : ∀ w ∈ wsL_law, w.before #[Value.ref b] s = true := fun w h => hts w (wsL_law_in w h)
  have hbA : ¬ (fun q : Nat => s.heap.size ≤ q) b := Nat.not_le.mpr hbl
  refine lv_aload_n hx hb dL_law_378 rfl (lv_at hl 2 rfl) ?_
  refine lv_aload_n hx hb dL_law_379 rfl (lv_at hl 1 rfl) ?_
  refine lv_iload_n hx hb dL_law_380 rfl (lv_at hl 0 rfl) ?_
  refine lv_iconst (v := nI 1) hx hb dL_law_381 (by decide) ?_
  refine xx_add hx hb dL_law_382 ?_
  refine xx_sld hx hb hX hbl hbA hS (j := i + 1) (by omega) hL dL_law_383 ?_
  refine W.callR (W.runV (As := [.int (xs (i + 1))]) (rest := []) ⟨hx, hb, hml, hown, hts⟩ (c0_said l D ad ck S a hi (xs (i + 1))) (cwV 1 hts gL_law_X0_said rfl rfl rfl (by decide +kernel) ⟨Nat.le_of_ble_eq_true rfl, Nat.le_of_ble_eq_true rfl⟩) (PW_pre hKB hPB (ci := 0) rfl rfl) rfl rfl hl.1 rfl (lv_room (Nat.le_of_ble_eq_true rfl)) dL_law_384 ⟨show 15 + 0 ≤ 15 by omega, show 3384 + 0 ≤ 3384 by omega⟩) ?_
  refine W.eq (g2 := F0 m 387 ls [.int (aSaid S (xs (i + 1)))]) rfl ?_
  refine lv_aload_n hx hb dL_law_387 rfl (lv_at hl 3 rfl) ?_
  refine lv_aload_n hx hb dL_law_388 rfl (lv_at hl 1 rfl) ?_
  refine lv_iload_n hx hb dL_law_389 rfl (lv_at hl 0 rfl) ?_
  refine lv_iconst (v := nI 1) hx hb dL_law_390 (by decide) ?_
  refine xx_add hx hb dL_law_391 ?_
  refine xx_sld hx hb hX hbl hbA hS (j := i + 1) (by omega) hL dL_law_392 ?_
  refine W.callR (W.runV (As := [.int (xs (i + 1))]) (rest := [.int (aSaid S (xs (i + 1)))]) ⟨hx, hb, hml, hown, hts⟩ (c1_said l D bd dk S a hi (xs (i + 1))) (cwV 1 hts gL_law_X1_said rfl rfl rfl (by decide +kernel) ⟨Nat.le_of_ble_eq_true rfl, Nat.le_of_ble_eq_true rfl⟩) (PW_pre hKM hPM (ci := 1) rfl rfl) rfl rfl hl.1 rfl (lv_room (Nat.le_of_ble_eq_true rfl)) dL_law_393 ⟨show 15 + 0 ≤ 15 by omega, show 3384 + 0 ≤ 3384 by omega⟩) ?_
  refine W.eq (g2 := F0 m 396 ls [.int (aSaid S (xs (i + 1))), .int (aSaid S (xs (i + 1)))]) rfl ?_
  refine lv_icmp_eq (tgt := 546) hx hb dL_law_396 (by decide) (fun _ => ?_) (fun h => absurd rfl h)
  exact k9 S a hi H locs hPB hPM hS ls hl
set_option maxHeartbeats 4000000 in
set_option maxRecDepth 100000 in
theorem law_claim {p : Program} {l : Launch} {e : Env} {s : State} {m : MethodId} {below : List Frame} {meth : Method} {c : Code} {D : va_G} {b L : Nat} {xs : Nat → Int32} (hL : L ≤ 2560) (C0 : lw_At p s m meth c b L xs) {ad bd : Nat → Nat} {ck dk : Nat → ClassId} (C1 : LC s D ad bd ck dk) {i : Nat} (h5 : i + 5 ≤ L) (k9 : ∀ (S : AS) (a : Nat), iv S → ∀ (H : Heap) (locs : List Loc), va_P D vwCl (wB ad ck S a) H → va_P D vwCl (wM bd dk S a) H → va_S (fun q : Nat => s.heap.size ≤ q) s.heap H locs → ∀ (ls : Array Slot), LV ls b ad bd i → LW p l e s m b below meth c H locs (F0 m 546 ls [])) (S : AS) (a : Nat) (hi : iv S) (H : Heap) (locs : List Loc) (hPB : va_P D vwCl (wB ad ck S a) H) (hPM : va_P D vwCl (wM bd dk S a) H) (hS : va_S (fun q : Nat => s.heap.size ≤ q) s.heap H locs) (ls : Array Slot) (hl : LV ls b ad bd i) : LW p l e s m b below meth c H locs (F0 m 401 ls []) := by
  obtain ⟨hx, hb, hr, hml, hown, hts, hX, hbl, hlocks, hgv⟩ := C0
  obtain ⟨hdB, hdM, hdj, hAB, hAM, hKB, hKM⟩ := C1
  have hown : s.vm.findClass RL = some m.cls := hown
  have hts : ∀ w ∈ wsL_law, w.before #[Value.ref b] s = true := fun w h => hts w (wsL_law_in w h)
  have hbA : ¬ (fun q : Nat => s.heap.size ≤ q) b := Nat.not_le.mpr hbl
  refine lv_aload_n hx hb dL_law_401 rfl (lv_at hl 2 rfl) ?_
  refine lv_aload_n hx hb dL_law_402 rfl (lv_at hl 1 rfl) ?_
  refine lv_iload_n hx hb dL_law_403 rfl (lv_at hl 0 rfl) ?_
  refine lv_iconst (v := nI 1) hx hb dL_law_404 (by decide) ?_
  refine xx_add hx hb dL_law_405 ?_
  refine xx_sld hx hb hX hbl hbA hS (j := i + 1) (by omega) hL dL_law_406 ?_
  refine lv_aload_n hx hb dL_law_407 rfl (lv_at hl 1 rfl) ?_
  refine lv_iload_n hx hb dL_law_408 rfl (lv_at hl 0 rfl) ?_
  refine lv_iconst (v := nI 2) hx hb dL_law_409 (by decide) ?_
  refine xx_add hx hb dL_law_410 ?_
  refine xx_sld hx hb hX hbl hbA hS (j := i + 2) (by omega) hL dL_law_411 ?_
  refine W.callR (W.runV (As := [.int (xs (i + 1)), .int (xs (i + 2))]) (rest := []) ⟨hx, hb, hml, hown, hts⟩ (c0_claim l D ad ck S a hi (xs (i + 1)) (xs (i + 2))) (cwV 2 hts gL_law_X0_claim rfl rfl rfl (by decide +kernel) ⟨Nat.le_of_ble_eq_true rfl, Nat.le_of_ble_eq_true rfl⟩) (PW_pre hKB hPB (ci := 0) rfl rfl) rfl rfl hl.1 rfl (lv_room (Nat.le_of_ble_eq_true rfl)) dL_law_412 ⟨show 15 + 0 ≤ 15 by omega, show 3384 + 0 ≤ 3384 by omega⟩) ?_
  refine W.eq (g2 := F0 m 415 ls [.int (aClaim S (xs (i + 1)) (xs (i + 2)))]) rfl ?_
  refine lv_aload_n hx hb dL_law_415 rfl (lv_at hl 3 rfl) ?_
  refine lv_aload_n hx hb dL_law_416 rfl (lv_at hl 1 rfl) ?_
  refine lv_iload_n hx hb dL_law_417 rfl (lv_at hl 0 rfl) ?_
  refine lv_iconst (v := nI 1) hx hb dL_law_418 (by decide) ?_
  refine xx_add hx hb dL_law_419 ?_
  refine xx_sld hx hb hX hbl hbA hS (j := i + 1) (by omega) hL dL_law_420 ?_
  refine lv_aload_n hx hb dL_law_421 rfl (lv_at hl 1 rfl) ?_
  refine lv_iload_n hx hb dL_law_422 rfl (lv_at hl 0 rfl) ?_
  refine lv_iconst (v := nI 2) hx hb dL_law_423 (by decide) ?_
  refine xx_add hx hb dL_law_424 ?_
  refine xx_sld hx hb hX hbl hbA hS (j := i + 2) (by omega) hL dL_law_425 ?_
  refine W.callR (W.runV (As := [.int (xs (i + 1)), .int (xs (i + 2))]) (rest := [.int (aClaim S (xs (i + 1)) (xs (i + 2)))]) ⟨hx, hb, hml, hown, hts⟩ (c1_claim l D bd dk S a hi (xs (i + 1)) (xs (i + 2))) (cwV 2 hts gL_law_X1_claim rfl rfl rfl (by decide +kernel) ⟨Nat.le_of_ble_eq_true rfl, Nat.le_of_ble_eq_true rfl⟩) (PW_pre hKM hPM (ci := 1) rfl rfl) rfl rfl hl.1 rfl (lv_room (Nat.le_of_ble_eq_true rfl)) dL_law_426 ⟨show 15 + 0 ≤ 15 by omega, show 3384 + 0 ≤ 3384 by omega⟩) ?_
  refine W.eq (g2 := F0 m 429 ls [.int (aClaim S (xs (i + 1)) (xs (i + 2))), .int (aClaim S (xs (i + 1)) (xs (i + 2)))]) rfl ?_
  refine lv_icmp_eq (tgt := 546) hx hb dL_law_429 (by decide) (fun _ => ?_) (fun h => absurd rfl h)
  exact k9 S a hi H locs hPB hPM hS ls hl
set_option maxHeartbeats 4000000 in
set_option maxRecDepth 100000 in
theorem law_kept {p : Program} {l : Launch} {e : Env} {s : State} {m : MethodId} {below : List Frame} {meth : Method} {c : Code} {D : va_G} {b L : Nat} {xs : Nat → Int32} (hL : L ≤ 2560) (C0 : lw_At p s m meth c b L xs) {ad bd : Nat → Nat} {ck dk : Nat → ClassId} (C1 : LC s D ad bd ck dk) {i : Nat} (h5 : i + 5 ≤ L) (k9 : ∀ (S : AS) (a : Nat), iv S → ∀ (H : Heap) (locs : List Loc), va_P D vwCl (wB ad ck S a) H → va_P D vwCl (wM bd dk S a) H → va_S (fun q : Nat => s.heap.size ≤ q) s.heap H locs → ∀ (ls : Array Slot), LV ls b ad bd i → LW p l e s m b below meth c H locs (F0 m 546 ls [])) (S : AS) (a : Nat) (hi : iv S) (H : Heap) (locs : List Loc) (hPB : va_P D vwCl (wB ad ck S a) H) (hPM : va_P D vwCl (wM bd dk S a) H) (hS : va_S (fun q : Nat => s.heap.size ≤ q) s.heap H locs) (ls : Array Slot) (hl : LV ls b ad bd i) : LW p l e s m b below meth c H locs (F0 m 434 ls []) := by
  obtain ⟨hx, hb, hr, hml, hown, hts, hX, hbl, hlocks, hgv⟩ := C0
  obtain ⟨hdB, hdM, hdj, hAB, hAM, hKB, hKM⟩ := C1
  have hown : s.vm.findClass RL = some m.cls := hown
  have hts : ∀ w ∈ wsL_law, w.before #[Value.ref b] s = true := fun w h => hts w (wsL_law_in w h)
  have hbA : ¬ (fun q : Nat => s.heap.size ≤ q) b := Nat.not_le.mpr hbl
  refine lv_aload_n hx hb dL_law_434 rfl (lv_at hl 2 rfl) ?_
  refine lv_aload_n hx hb dL_law_435 rfl (lv_at hl 1 rfl) ?_
  refine lv_iload_n hx hb dL_law_436 rfl (lv_at hl 0 rfl) ?_
  refine lv_iconst (v := nI 1) hx hb dL_law_437 (by decide) ?_
  refine xx_add hx hb dL_law_438 ?_
  refine xx_sld hx hb hX hbl hbA hS (j := i + 1) (by omega) hL dL_law_439 ?_
  refine lv_aload_n hx hb dL_law_440 rfl (lv_at hl 1 rfl) ?_
  refine lv_iload_n hx hb dL_law_441 rfl (lv_at hl 0 rfl) ?_
  refine lv_iconst (v := nI 2) hx hb dL_law_442 (by decide) ?_
  refine xx_add hx hb dL_law_443 ?_
  refine xx_sld hx hb hX hbl hbA hS (j := i + 2) (by omega) hL dL_law_444 ?_
  refine W.callR (W.runV (As := [.int (xs (i + 1)), .int (xs (i + 2))]) (rest := []) ⟨hx, hb, hml, hown, hts⟩ (c0_kept l D ad ck S a hi (xs (i + 1)) (xs (i + 2))) (cwV 2 hts gL_law_X0_kept rfl rfl rfl (by decide +kernel) ⟨Nat.le_of_ble_eq_true rfl, Nat.le_of_ble_eq_true rfl⟩) (PW_pre hKB hPB (ci := 0) rfl rfl) rfl rfl hl.1 rfl (lv_room (Nat.le_of_ble_eq_true rfl)) dL_law_445 ⟨show 15 + 0 ≤ 15 by omega, show 3384 + 0 ≤ 3384 by omega⟩) ?_
  refine W.eq (g2 := F0 m 448 ls [.int (aKept S (xs (i + 1)) (xs (i + 2)))]) rfl ?_
  refine lv_aload_n hx hb dL_law_448 rfl (lv_at hl 3 rfl) ?_
  refine lv_aload_n hx hb dL_law_449 rfl (lv_at hl 1 rfl) ?_
  refine lv_iload_n hx hb dL_law_450 rfl (lv_at hl 0 rfl) ?_
  refine lv_iconst (v := nI 1) hx hb dL_law_451 (by decide) ?_
  refine xx_add hx hb dL_law_452 ?_
  refine xx_sld hx hb hX hbl hbA hS (j := i + 1) (by omega) hL dL_law_453 ?_
  refine lv_aload_n hx hb dL_law_454 rfl (lv_at hl 1 rfl) ?_
  refine lv_iload_n hx hb dL_law_455 rfl (lv_at hl 0 rfl) ?_
  refine lv_iconst (v := nI 2) hx hb dL_law_456 (by decide) ?_
  refine xx_add hx hb dL_law_457 ?_
  refine xx_sld hx hb hX hbl hbA hS (j := i + 2) (by omega) hL dL_law_458 ?_
  refine W.callR (W.runV (As := [.int (xs (i + 1)), .int (xs (i + 2))]) (rest := [.int (aKept S (xs (i + 1)) (xs (i + 2)))]) ⟨hx, hb, hml, hown, hts⟩ (c1_kept l D bd dk S a hi (xs (i + 1)) (xs (i + 2))) (cwV 2 hts gL_law_X1_kept rfl rfl rfl (by decide +kernel) ⟨Nat.le_of_ble_eq_true rfl, Nat.le_of_ble_eq_true rfl⟩) (PW_pre hKM hPM (ci := 1) rfl rfl) rfl rfl hl.1 rfl (lv_room (Nat.le_of_ble_eq_true rfl)) dL_law_459 ⟨show 15 + 0 ≤ 15 by omega, show 3384 + 0 ≤ 3384 by omega⟩) ?_
  refine W.eq (g2 := F0 m 462 ls [.int (aKept S (xs (i + 1)) (xs (i + 2))), .int (aKept S (xs (i + 1)) (xs (i + 2)))]) rfl ?_
  refine lv_icmp_eq (tgt := 546) hx hb dL_law_462 (by decide) (fun _ => ?_) (fun h => absurd rfl h)
  exact k9 S a hi H locs hPB hPM hS ls hl
set_option maxHeartbeats 4000000 in
set_option maxRecDepth 100000 in
theorem law_lost {p : Program} {l : Launch} {e : Env} {s : State} {m : MethodId} {below : List Frame} {meth : Method} {c : Code} {D : va_G} {b L : Nat} {xs : Nat → Int32} (hL : L ≤ 2560) (C0 : lw_At p s m meth c b L xs) {ad bd : Nat → Nat} {ck dk : Nat → ClassId} (C1 : LC s D ad bd ck dk) {i : Nat} (h5 : i + 5 ≤ L) (k9 : ∀ (S : AS) (a : Nat), iv S → ∀ (H : Heap) (locs : List Loc), va_P D vwCl (wB ad ck S a) H → va_P D vwCl (wM bd dk S a) H → va_S (fun q : Nat => s.heap.size ≤ q) s.heap H locs → ∀ (ls : Array Slot), LV ls b ad bd i → LW p l e s m b below meth c H locs (F0 m 546 ls [])) (S : AS) (a : Nat) (hi : iv S) (H : Heap) (locs : List Loc) (hPB : va_P D vwCl (wB ad ck S a) H) (hPM : va_P D vwCl (wM bd dk S a) H) (hS : va_S (fun q : Nat => s.heap.size ≤ q) s.heap H locs) (ls : Array Slot) (hl : LV ls b ad bd i) : LW p l e s m b below meth c H locs (F0 m 467 ls []) := by
  obtain ⟨hx, hb, hr, hml, hown, hts, hX, hbl, hlocks, hgv⟩ := C0
  obtain ⟨hdB, hdM, hdj, hAB, hAM, hKB, hKM⟩ := C1
  have hown : s.vm.findClass RL = some m.cls := hown
  have hts : ∀ w ∈ wsL_law, w.before #[Value.ref b] s = true := fun w h => hts w (wsL_law_in w h)
  have hbA : ¬ (fun q : Nat => s.heap.size ≤ q) b := Nat.not_le.mpr hbl
  refine lv_aload_n hx hb dL_law_467 rfl (lv_at hl 2 rfl) ?_
  refine lv_aload_n hx hb dL_law_468 rfl (lv_at hl 1 rfl) ?_
  refine lv_iload_n hx hb dL_law_469 rfl (lv_at hl 0 rfl) ?_
  refine lv_iconst (v := nI 1) hx hb dL_law_470 (by decide) ?_
  refine xx_add hx hb dL_law_471 ?_
  refine xx_sld hx hb hX hbl hbA hS (j := i + 1) (by omega) hL dL_law_472 ?_
  refine lv_aload_n hx hb dL_law_473 rfl (lv_at hl 1 rfl) ?_
  refine lv_iload_n hx hb dL_law_474 rfl (lv_at hl 0 rfl) ?_
  refine lv_iconst (v := nI 2) hx hb dL_law_475 (by decide) ?_
  refine xx_add hx hb dL_law_476 ?_
  refine xx_sld hx hb hX hbl hbA hS (j := i + 2) (by omega) hL dL_law_477 ?_
  refine W.callR (W.runV (As := [.int (xs (i + 1)), .int (xs (i + 2))]) (rest := []) ⟨hx, hb, hml, hown, hts⟩ (c0_lost l D ad ck S a hi (xs (i + 1)) (xs (i + 2))) (cwV 2 hts gL_law_X0_lost rfl rfl rfl (by decide +kernel) ⟨Nat.le_of_ble_eq_true rfl, Nat.le_of_ble_eq_true rfl⟩) (PW_pre hKB hPB (ci := 0) rfl rfl) rfl rfl hl.1 rfl (lv_room (Nat.le_of_ble_eq_true rfl)) dL_law_478 ⟨show 15 + 0 ≤ 15 by omega, show 3384 + 0 ≤ 3384 by omega⟩) ?_
  refine W.eq (g2 := F0 m 481 ls [.int (aLost S (xs (i + 1)) (xs (i + 2)))]) rfl ?_
  refine lv_aload_n hx hb dL_law_481 rfl (lv_at hl 3 rfl) ?_
  refine lv_aload_n hx hb dL_law_482 rfl (lv_at hl 1 rfl) ?_
  refine lv_iload_n hx hb dL_law_483 rfl (lv_at hl 0 rfl) ?_
  refine lv_iconst (v := nI 1) hx hb dL_law_484 (by decide) ?_
  refine xx_add hx hb dL_law_485 ?_
  refine xx_sld hx hb hX hbl hbA hS (j := i + 1) (by omega) hL dL_law_486 ?_
  refine lv_aload_n hx hb dL_law_487 rfl (lv_at hl 1 rfl) ?_
  refine lv_iload_n hx hb dL_law_488 rfl (lv_at hl 0 rfl) ?_
  refine lv_iconst (v := nI 2) hx hb dL_law_489 (by decide) ?_
  refine xx_add hx hb dL_law_490 ?_
  refine xx_sld hx hb hX hbl hbA hS (j := i + 2) (by omega) hL dL_law_491 ?_
  refine W.callR (W.runV (As := [.int (xs (i + 1)), .int (xs (i + 2))]) (rest := [.int (aLost S (xs (i + 1)) (xs (i + 2)))]) ⟨hx, hb, hml, hown, hts⟩ (c1_lost l D bd dk S a hi (xs (i + 1)) (xs (i + 2))) (cwV 2 hts gL_law_X1_lost rfl rfl rfl (by decide +kernel) ⟨Nat.le_of_ble_eq_true rfl, Nat.le_of_ble_eq_true rfl⟩) (PW_pre hKM hPM (ci := 1) rfl rfl) rfl rfl hl.1 rfl (lv_room (Nat.le_of_ble_eq_true rfl)) dL_law_492 ⟨show 15 + 0 ≤ 15 by omega, show 3384 + 0 ≤ 3384 by omega⟩) ?_
  refine W.eq (g2 := F0 m 495 ls [.int (aLost S (xs (i + 1)) (xs (i + 2))), .int (aLost S (xs (i + 1)) (xs (i + 2)))]) rfl ?_
  refine lv_icmp_eq (tgt := 546) hx hb dL_law_495 (by decide) (fun _ => ?_) (fun h => absurd rfl h)
  exact k9 S a hi H locs hPB hPM hS ls hl
set_option maxHeartbeats 4000000 in
set_option maxRecDepth 100000 in
theorem law_sends {p : Program} {l : Launch} {e : Env} {s : State} {m : MethodId} {below : List Frame} {meth : Method} {c : Code} {D : va_G} {b L : Nat} {xs : Nat → Int32} (hL : L ≤ 2560) (C0 : lw_At p s m meth c b L xs) {ad bd : Nat → Nat} {ck dk : Nat → ClassId} (C1 : LC s D ad bd ck dk) {i : Nat} (h5 : i + 5 ≤ L) (k9 : ∀ (S : AS) (a : Nat), iv S → ∀ (H : Heap) (locs : List Loc), va_P D vwCl (wB ad ck S a) H → va_P D vwCl (wM bd dk S a) H → va_S (fun q : Nat => s.heap.size ≤ q) s.heap H locs → ∀ (ls : Array Slot), LV ls b ad bd i → LW p l e s m b below meth c H locs (F0 m 546 ls [])) (S : AS) (a : Nat) (hi : iv S) (H : Heap) (locs : List Loc) (hPB : va_P D vwCl (wB ad ck S a) H) (hPM : va_P D vwCl (wM bd dk S a) H) (hS : va_S (fun q : Nat => s.heap.size ≤ q) s.heap H locs) (ls : Array Slot) (hl : LV ls b ad bd i) : LW p l e s m b below meth c H locs (F0 m 500 ls []) := by
  obtain ⟨hx, hb, hr, hml, hown, hts, hX, hbl, hlocks, hgv⟩ := C0
  obtain ⟨hdB, hdM, hdj, hAB, hAM, hKB, hKM⟩ := C1
  have hown : s.vm.findClass RL = some m.cls := hown
  have hts : ∀ w ∈ wsL_law, w.before #[Value.ref b] s = true := fun w h => hts w (wsL_law_in w h)
  have hbA : ¬ (fun q : Nat => s.heap.size ≤ q) b := Nat.not_le.mpr hbl
  refine lv_aload_n hx hb dL_law_500 rfl (lv_at hl 2 rfl) ?_
  refine lv_aload_n hx hb dL_law_501 rfl (lv_at hl 1 rfl) ?_
  refine lv_iload_n hx hb dL_law_502 rfl (lv_at hl 0 rfl) ?_
  refine lv_iconst (v := nI 1) hx hb dL_law_503 (by decide) ?_
  refine xx_add hx hb dL_law_504 ?_
  refine xx_sld hx hb hX hbl hbA hS (j := i + 1) (by omega) hL dL_law_505 ?_
  refine W.callR (W.runV (As := [.int (xs (i + 1))]) (rest := []) ⟨hx, hb, hml, hown, hts⟩ (c0_sends l D ad ck S a hi (xs (i + 1))) (cwV 1 hts gL_law_X0_sends rfl rfl rfl (by decide +kernel) ⟨Nat.le_of_ble_eq_true rfl, Nat.le_of_ble_eq_true rfl⟩) (PW_pre hKB hPB (ci := 0) rfl rfl) rfl rfl hl.1 rfl (lv_room (Nat.le_of_ble_eq_true rfl)) dL_law_506 ⟨show 15 + 0 ≤ 15 by omega, show 3384 + 0 ≤ 3384 by omega⟩) ?_
  refine W.eq (g2 := F0 m 509 ls [.int (aSends S (xs (i + 1)))]) rfl ?_
  refine lv_aload_n hx hb dL_law_509 rfl (lv_at hl 3 rfl) ?_
  refine lv_aload_n hx hb dL_law_510 rfl (lv_at hl 1 rfl) ?_
  refine lv_iload_n hx hb dL_law_511 rfl (lv_at hl 0 rfl) ?_
  refine lv_iconst (v := nI 1) hx hb dL_law_512 (by decide) ?_
  refine xx_add hx hb dL_law_513 ?_
  refine xx_sld hx hb hX hbl hbA hS (j := i + 1) (by omega) hL dL_law_514 ?_
  refine W.callR (W.runV (As := [.int (xs (i + 1))]) (rest := [.int (aSends S (xs (i + 1)))]) ⟨hx, hb, hml, hown, hts⟩ (c1_sends l D bd dk S a hi (xs (i + 1))) (cwV 1 hts gL_law_X1_sends rfl rfl rfl (by decide +kernel) ⟨Nat.le_of_ble_eq_true rfl, Nat.le_of_ble_eq_true rfl⟩) (PW_pre hKM hPM (ci := 1) rfl rfl) rfl rfl hl.1 rfl (lv_room (Nat.le_of_ble_eq_true rfl)) dL_law_515 ⟨show 15 + 0 ≤ 15 by omega, show 3384 + 0 ≤ 3384 by omega⟩) ?_
  refine W.eq (g2 := F0 m 518 ls [.int (aSends S (xs (i + 1))), .int (aSends S (xs (i + 1)))]) rfl ?_
  refine lv_icmp_eq (tgt := 546) hx hb dL_law_518 (by decide) (fun _ => ?_) (fun h => absurd rfl h)
  exact k9 S a hi H locs hPB hPM hS ls hl
set_option maxHeartbeats 4000000 in
set_option maxRecDepth 100000 in
theorem law_look {p : Program} {l : Launch} {e : Env} {s : State} {m : MethodId} {below : List Frame} {meth : Method} {c : Code} {D : va_G} {b L : Nat} {xs : Nat → Int32} (hL : L ≤ 2560) (C0 : lw_At p s m meth c b L xs) {ad bd : Nat → Nat} {ck dk : Nat → ClassId} (C1 : LC s D ad bd ck dk) {i : Nat} (h5 : i + 5 ≤ L) (k9 : ∀ (S : AS) (a : Nat), iv S → ∀ (H : Heap) (locs : List Loc), va_P D vwCl (wB ad ck S a) H → va_P D vwCl (wM bd dk S a) H → va_S (fun q : Nat => s.heap.size ≤ q) s.heap H locs → ∀ (ls : Array Slot), LV ls b ad bd i → LW p l e s m b below meth c H locs (F0 m 546 ls [])) (S : AS) (a : Nat) (hi : iv S) (H : Heap) (locs : List Loc) (hPB : va_P D vwCl (wB ad ck S a) H) (hPM : va_P D vwCl (wM bd dk S a) H) (hS : va_S (fun q : Nat => s.heap.size ≤ q) s.heap H locs) (ls : Array Slot) (hl : LV ls b ad bd i) : LW p l e s m b below meth c H locs (F0 m 523 ls []) := by
  obtain ⟨hx, hb, hr, hml, hown, hts, hX, hbl, hlocks, hgv⟩ := C0
  obtain ⟨hdB, hdM, hdj, hAB, hAM, hKB, hKM⟩ := C1
  have hown : s.vm.findClass RL = some m.cls := hown
  have hts : ∀ w ∈ wsL_law, w.before #[Value.ref b] s = true := fun w h => hts w (wsL_law_in w h)
  have hbA : ¬ (fun q : Nat => s.heap.size ≤ q) b := Nat.not_le.mpr hbl
  refine lv_aload_n hx hb dL_law_523 rfl (lv_at hl 2 rfl) ?_
  refine lv_aload_n hx hb dL_law_524 rfl (lv_at hl 1 rfl) ?_
  refine lv_iload_n hx hb dL_law_525 rfl (lv_at hl 0 rfl) ?_
  refine lv_iconst (v := nI 1) hx hb dL_law_526 (by decide) ?_
  refine xx_add hx hb dL_law_527 ?_
  refine xx_sld hx hb hX hbl hbA hS (j := i + 1) (by omega) hL dL_law_528 ?_
  refine W.callR (W.runV (As := [.int (xs (i + 1))]) (rest := []) ⟨hx, hb, hml, hown, hts⟩ (c0_look l D ad ck S a hi (xs (i + 1))) (cwV 1 hts gL_law_X0_look rfl rfl rfl (by decide +kernel) ⟨Nat.le_of_ble_eq_true rfl, Nat.le_of_ble_eq_true rfl⟩) (PW_pre hKB hPB (ci := 0) rfl rfl) rfl rfl hl.1 rfl (lv_room (Nat.le_of_ble_eq_true rfl)) dL_law_529 ⟨show 15 + 0 ≤ 15 by omega, show 3384 + 0 ≤ 3384 by omega⟩) ?_
  refine W.eq (g2 := F0 m 532 ls [.int (aLook S a (xs (i + 1)))]) rfl ?_
  refine lv_aload_n hx hb dL_law_532 rfl (lv_at hl 3 rfl) ?_
  refine lv_aload_n hx hb dL_law_533 rfl (lv_at hl 1 rfl) ?_
  refine lv_iload_n hx hb dL_law_534 rfl (lv_at hl 0 rfl) ?_
  refine lv_iconst (v := nI 1) hx hb dL_law_535 (by decide) ?_
  refine xx_add hx hb dL_law_536 ?_
  refine xx_sld hx hb hX hbl hbA hS (j := i + 1) (by omega) hL dL_law_537 ?_
  refine W.callR (W.runV (As := [.int (xs (i + 1))]) (rest := [.int (aLook S a (xs (i + 1)))]) ⟨hx, hb, hml, hown, hts⟩ (c1_look l D bd dk S a hi (xs (i + 1))) (cwV 1 hts gL_law_X1_look rfl rfl rfl (by decide +kernel) ⟨Nat.le_of_ble_eq_true rfl, Nat.le_of_ble_eq_true rfl⟩) (PW_pre hKM hPM (ci := 1) rfl rfl) rfl rfl hl.1 rfl (lv_room (Nat.le_of_ble_eq_true rfl)) dL_law_538 ⟨show 15 + 0 ≤ 15 by omega, show 3384 + 0 ≤ 3384 by omega⟩) ?_
  refine W.eq (g2 := F0 m 541 ls [.int (aLook S a (xs (i + 1))), .int (aLook S a (xs (i + 1)))]) rfl ?_
  refine lv_icmp_eq (tgt := 546) hx hb dL_law_541 (by decide) (fun _ => ?_) (fun h => absurd rfl h)
  exact k9 S a hi H locs hPB hPM hS ls hl
end
section
set_option maxHeartbeats 4000000 in
set_option maxRecDepth 100000 in
/-- THE LAW'S LOOP: at its head, with i ints read, class and reference hold one state -/
theorem law_loop {p : Program} {l : Launch} {e : Env} {s : State} {m : MethodId} {below : List Frame} {meth : Method} {c : Code} {D : va_G} {b L : Nat} {xs : Nat → Int32} (hL : L ≤ 2560) (C0 : lw_At p s m meth c b L xs) {ad bd : Nat → Nat} {ck dk : Nat → ClassId} (C1 : LC s D ad bd ck dk) : ∀ (n i : Nat), L < i + n → i ≤ L → ∀ (S : AS) (a : Nat), iv S → ∀ (H : Heap) (locs : List Loc), va_P D vwCl (wB ad ck S a) H → va_P D vwCl (wM bd dk S a) H → va_S (fun q : Nat => s.heap.size ≤ q) s.heap H locs → ∀ (ls : Array Slot), LV ls b ad bd i → LW p l e s m b below meth c H locs (F0 m 18 ls []) := by
  obtain ⟨hx, hb, hr, hml, hown, hts, hX, hbl, hlocks, hgv⟩ := id C0
  have hbA : ¬ (fun q : Nat => s.heap.size ≤ q) b := Nat.not_le.mpr hbl
  intro n
  induction n with
  | zero => exact fun i h1 h2 => absurd h1 (by omega)
  | succ n ih =>
    intro i hi1 hi2 S a hi H locs hPB hPM hS ls hl
    refine lv_iload_n hx hb dL_law_18 rfl (lv_at hl 0 rfl) ?_
    refine lv_aload_n hx hb dL_law_19 rfl (lv_at hl 1 rfl) ?_
    refine va_slen hx hb hX hbl hbA hS dL_law_20 ?_
    refine lv_iconst (v := nI 5) hx hb dL_law_21 (by decide) ?_
    refine lv_isub hx hb dL_law_22 ?_
    refine lv_icmp_gt (tgt := 552) hx hb dL_law_23 (by decide) (fun h1 => ?_) (fun h1 => ?_)
    · refine lv_iconst (v := 1) hx hb dL_law_552 (by decide) ?_
      refine va_forget (fun q hq => hS.2.2 q hq) ?_
      exact lw_ret hx hb hr hlocks dL_law_553
    · have h5 : i + 5 ≤ L := i_le hL (by omega) h1
      have k9 : ∀ (S : AS) (a : Nat), iv S → ∀ (H : Heap) (locs : List Loc), va_P D vwCl (wB ad ck S a) H → va_P D vwCl (wM bd dk S a) H → va_S (fun q : Nat => s.heap.size ≤ q) s.heap H locs → ∀ (ls : Array Slot), LV ls b ad bd i → LW p l e s m b below meth c H locs (F0 m 546 ls []) := by
        intro S a hi H locs hPB hPM hS ls hl
        refine lv_iinc (v := nI (i + 5)) (lv' := [(3, .int (nI (i + 5))), (0, .ref b), (1, .ref (ad 0)), (2, .ref (bd 0))]) hx hb dL_law_546 hl (k := 0) rfl (i_5 i) (by decide) rfl (fun ls hl => ?_)
        refine lv_goto (tgt := 18) hx hb dL_law_549 (by decide) ?_
        exact ih (i + 5) (by omega) h5 S a hi H locs hPB hPM hS ls hl
      refine lv_aload_n hx hb dL_law_26 rfl (lv_at hl 1 rfl) ?_
      refine lv_iload_n hx hb dL_law_27 rfl (lv_at hl 0 rfl) ?_
      refine xx_sld hx hb hX hbl hbA hS (j := i) (by omega) hL dL_law_28 ?_
      refine lv_bipush (v := nI 15) hx hb dL_law_29 (by decide) ?_
      refine lv_iand hx hb dL_law_31 ?_
      obtain ⟨j, hj, ej⟩ := pk_andE (xs i) (m := nI 15) 4 (by decide)
      refine xx_top (nI j) ej ?_
      have hj16 : j < 16 := hj
      by_cases j0 : j = 0
      · subst j0
        refine lv_tableIn (off := 64) (tgt := 96) hx hb dL_law_32 (by decide) (by decide) (by decide) (by decide) ?_
        exact law_tick hL C0 C1 h5 k9 S a hi H locs hPB hPM hS ls hl
      by_cases j1 : j = 1
      · subst j1
        refine lv_tableIn (off := 87) (tgt := 119) hx hb dL_law_32 (by decide) (by decide) (by decide) (by decide) ?_
        exact law_forward hL C0 C1 h5 k9 S a hi H locs hPB hPM hS ls hl
      by_cases j2 : j = 2
      · subst j2
        refine lv_tableIn (off := 146) (tgt := 178) hx hb dL_law_32 (by decide) (by decide) (by decide) (by decide) ?_
        exact law_place hL C0 C1 h5 k9 S a hi H locs hPB hPM hS ls hl
      by_cases j3 : j = 3
      · subst j3
        refine lv_tableIn (off := 215) (tgt := 247) hx hb dL_law_32 (by decide) (by decide) (by decide) (by decide) ?_
        exact law_there hL C0 C1 h5 k9 S a hi H locs hPB hPM hS ls hl
      by_cases j4 : j = 4
      · subst j4
        refine lv_tableIn (off := 264) (tgt := 296) hx hb dL_law_32 (by decide) (by decide) (by decide) (by decide) ?_
        exact law_deaf hL C0 C1 h5 k9 S a hi H locs hPB hPM hS ls hl
      by_cases j5 : j = 5
      · subst j5
        refine lv_tableIn (off := 313) (tgt := 345) hx hb dL_law_32 (by decide) (by decide) (by decide) (by decide) ?_
        exact law_data hL C0 C1 h5 k9 S a hi H locs hPB hPM hS ls hl
      by_cases j6 : j = 6
      · subst j6
        refine lv_tableIn (off := 346) (tgt := 378) hx hb dL_law_32 (by decide) (by decide) (by decide) (by decide) ?_
        exact law_said hL C0 C1 h5 k9 S a hi H locs hPB hPM hS ls hl
      by_cases j7 : j = 7
      · subst j7
        refine lv_tableIn (off := 369) (tgt := 401) hx hb dL_law_32 (by decide) (by decide) (by decide) (by decide) ?_
        exact law_claim hL C0 C1 h5 k9 S a hi H locs hPB hPM hS ls hl
      by_cases j8 : j = 8
      · subst j8
        refine lv_tableIn (off := 402) (tgt := 434) hx hb dL_law_32 (by decide) (by decide) (by decide) (by decide) ?_
        exact law_kept hL C0 C1 h5 k9 S a hi H locs hPB hPM hS ls hl
      by_cases j9 : j = 9
      · subst j9
        refine lv_tableIn (off := 435) (tgt := 467) hx hb dL_law_32 (by decide) (by decide) (by decide) (by decide) ?_
        exact law_lost hL C0 C1 h5 k9 S a hi H locs hPB hPM hS ls hl
      by_cases j10 : j = 10
      · subst j10
        refine lv_tableIn (off := 468) (tgt := 500) hx hb dL_law_32 (by decide) (by decide) (by decide) (by decide) ?_
        exact law_sends hL C0 C1 h5 k9 S a hi H locs hPB hPM hS ls hl
      by_cases j11 : j = 11
      · subst j11
        refine lv_tableIn (off := 491) (tgt := 523) hx hb dL_law_32 (by decide) (by decide) (by decide) (by decide) ?_
        exact law_look hL C0 C1 h5 k9 S a hi H locs hPB hPM hS ls hl
      refine lv_tableOut (tgt := 546) hx hb dL_law_32 (Or.inr ?_) (by decide) ?_
      · rw [nI_toInt (by omega)]; omega
      · exact k9 S a hi H locs hPB hPM hS ls hl
set_option maxHeartbeats 4000000 in
set_option maxRecDepth 100000 in
/-- THE LAW, from its entry -/
theorem whole_start {p : Program} {e : Env} {s : State} {m : MethodId} {below : List Frame} {meth : Method} {c : Code} (l : Launch) {b L : Nat} {xs : Nat → Int32} (hL : L ≤ 2560) (C0 : lw_At p s m meth c b L xs) : W p l e room_1 s m #[Value.ref b] below meth c s.heap [] 0 0 (lw_Z below #[Value.ref b] s) (entryFrame m ([Value.ref b] : List Value).toArray 4) := by
  obtain ⟨hx, hb, hr, hml, hown, hts, hX, hbl, hlocks, hgv⟩ := id C0
  have hown : s.vm.findClass RL = some m.cls := hown
  have hts : ∀ w ∈ wsL_law, w.before #[Value.ref b] s = true := fun w h => hts w (wsL_law_in w h)
  have hA : ∀ q : Nat, s.heap.size ≤ q → (fun q : Nat => s.heap.size ≤ q) q := fun _ h => h
  have hbA : ¬ (fun q : Nat => s.heap.size ≤ q) b := Nat.not_le.mpr hbl
  obtain ⟨c0, iS0, hKn0⟩ := u_known (C := RX0) (T := TX0) (N := 10) (n := 10) hts inlX0 (hts (.instantiable RX0 10) (by decide +kernel))
  obtain ⟨c1, iS1, hKn1⟩ := u_known (C := RX1) (T := TX1) (N := 11) (n := 11) hts inlX1 (hts (.instantiable RX1 11) (by decide +kernel))
  obtain ⟨D, hKc⟩ : ∃ (D : va_G), ∀ (k : Nat) (q : vw_C), vwCl[k]? = some q → u_Kn s q.1 q.2.1 q.2.2 (D.1 k) (D.2 k) := by
    refine ⟨(fun k => if k = 0 then c0 else c1, fun k => if k = 0 then iS0 else iS1), ?_⟩
    intro k q hq
    match k, hq with
    | 0, hq => cases hq; exact hKn0
    | 1, hq => cases hq; exact hKn1
    | k + 2, hq => simp [vwCl] at hq
  have hS : va_S (fun q : Nat => s.heap.size ≤ q) s.heap s.heap [] := va_S.rf
  have hK : va_K D vwCl [] s := ⟨hKc, fun k q h => by simp at h⟩
  have hP : va_P D vwCl [] s.heap := fun k q h => by simp at h
  have hD : va_D (fun q : Nat => s.heap.size ≤ q) [] := ⟨fun i j p q h => by simp at h, fun k q h => by simp at h⟩
  have hl := lv_entry ([.ref b]) (n := 4) (Nat.le_of_ble_eq_true rfl)
  rw [lg_entry_eq]
  generalize (lg_sl ([.ref b]) ++ List.replicate (4 - (lg_sl ([.ref b])).length) Slot.unset).toArray = ls at hl ⊢
  have hl : lv_has ls 4 [(0, .ref b)] := hl
  refine va_new (ci := 0) (fs := [.int 0, .int 0, .int 0, .int 0, .null, .null, .null, .null, .null, .int 0]) (C := RX0) (T := TX0) (N := 10) hx hb hts inlX0 tyX0 tyX0_ok hown (hts (.classLink RL 7 RX0) (by decide +kernel)) (hts (.instantiable RX0 10) (by decide +kernel)) (hts (.initialized RX0) (by decide +kernel)) hK hP hD hS hA rfl (fun j hj => by rcases (show j = 0 ∨ j = 1 ∨ j = 2 ∨ j = 3 ∨ j = 4 ∨ j = 5 ∨ j = 6 ∨ j = 7 ∨ j = 8 ∨ j = 9 by omega) with rfl | rfl | rfl | rfl | rfl | rfl | rfl | rfl | rfl | rfl <;> rfl) (show 0 + 1 ≤ 15 by omega) (show 0 + 10 ≤ 3384 by omega) dL_law_0 (fun q0v H hP hD hS => ?_)
  have hP : va_P D vwCl ([(q0v, .inr (0, [.int 0, .int 0, .int 0, .int 0, .null, .null, .null, .null, .null, .int 0]))]) H := hP
  have hD : va_D (fun q : Nat => s.heap.size ≤ q) ([(q0v, .inr (0, [.int 0, .int 0, .int 0, .int 0, .null, .null, .null, .null, .null, .int 0]))]) := hD
  refine W.widen (k := 1) (n := 10) (show 0 + 1 ≤ 1 by omega) (show 0 + 10 ≤ 10 by omega) ?_
  refine lv_dup hx hb dL_law_3 rfl ?_
  have hPc := hP.sub (ws' := [(q0v, .inr (0, [.int 0, .int 0, .int 0, .int 0, .null, .null, .null, .null, .null, .int 0]))]) [0] rfl
  have hDc := hD.sub (ws' := [(q0v, .inr (0, [.int 0, .int 0, .int 0, .int 0, .null, .null, .null, .null, .null, .int 0]))]) [0] (by decide) rfl
  have hKc := hK.sub (tys' := []) [] rfl
  have hFc := va_free (wc := [(q0v, .inr (0, [.int 0, .int 0, .int 0, .int 0, .null, .null, .null, .null, .null, .int 0]))]) hD hS hA [0] rfl
  refine va_callv (va_runI (As := []) (rest := [.ref q0v]) ⟨hx, hb, hml, hown, hts⟩ (c0_init l D q0v H.size) (cwI 0 hts gL_law_X0_init rfl rfl rfl (hts (.initialized RX0) (by decide +kernel)) (hts (.methodLink RL 9 yX0_init) (by decide +kernel)) (hts (.instanceMethod yX0_init) (by decide +kernel)) rfl (by decide +kernel) ⟨Nat.le_of_ble_eq_true rfl, Nat.le_of_ble_eq_true rfl⟩) ⟨fun a U g mk q => by obtain ⟨q0, q1, qP, qK, qD⟩ := q; exact ⟨q0, q1, qP, va_K.moved (u := U) (U := U.calling g mk a) (Vm.Alike.refl U.vm) qK, qD⟩, fun U hU hW => ⟨rfl, by rw [hU], by rw [hU]; exact hPc, va_K.moved hW.alike hKc, hDc.weaken (fun _ _ _ _ => trivial)⟩⟩ rfl rfl hl.1 rfl (lv_room (Nat.le_of_ble_eq_true rfl)) dL_law_4 ⟨show 1 + 5 ≤ 15 by omega, show 10 + 1519 ≤ 3384 by omega⟩) hS (fun q _ h => hFc q h) hFc (fun u t H1 locs ht hvm hw hB hz1 hk1 hS => ?_)
  obtain ⟨ad, ck⟩ := u
  obtain ⟨had0, hP1, hK1, hD1⟩ := hB
  rw [ht] at hP1
  have hP1 : va_P D vwCl (wB ad ck S0 0) H1 := hP1
  have hD1 : va_D (va_A [(q0v, .inr (0, [.int 0, .int 0, .int 0, .int 0, .null, .null, .null, .null, .null, .int 0]))] H.size) (wB ad ck S0 0) := hD1
  have hK1 : va_K D vwCl (tyB ck) s := va_K.moved hvm.symm hK1
  have had0 : ad 0 = q0v := had0
  obtain ⟨hP, hD⟩ := va_join (wr := []) (w1 := wB ad ck S0 0) hP hD [0] [] rfl rfl (by decide) (by decide) hk1 hFc hP1 hD1
  have hP : va_P D vwCl (wB ad ck S0 0) H1 := hP
  have hD : va_D (fun q : Nat => s.heap.size ≤ q) (wB ad ck S0 0) := hD
  have hK : va_K D vwCl (tyB ck) s := hK1
  refine W.widen (k := 6) (n := 1529) (show 1 + 5 ≤ 6 by omega) (show 10 + 1519 ≤ 1529 by omega) ?_
  refine lv_astore_n (lv' := [(1, .ref q0v), (0, .ref b)]) hx hb dL_law_7 rfl hl (by decide) rfl (fun ls hl => ?_)
  refine va_new (ci := 1) (fs := [.int 0, .int 0, .null, .null, .null, .null, .null, .null, .null, .null, .int 0]) (C := RX1) (T := TX1) (N := 11) hx hb hts inlX1 tyX1 tyX1_ok hown (hts (.classLink RL 10 RX1) (by decide +kernel)) (hts (.instantiable RX1 11) (by decide +kernel)) (hts (.initialized RX1) (by decide +kernel)) hK hP hD hS hA rfl (fun j hj => by rcases (show j = 0 ∨ j = 1 ∨ j = 2 ∨ j = 3 ∨ j = 4 ∨ j = 5 ∨ j = 6 ∨ j = 7 ∨ j = 8 ∨ j = 9 ∨ j = 10 by omega) with rfl | rfl | rfl | rfl | rfl | rfl | rfl | rfl | rfl | rfl | rfl <;> rfl) (show 6 + 1 ≤ 15 by omega) (show 1529 + 11 ≤ 3384 by omega) dL_law_8 (fun q1v H hP hD hS => ?_)
  have hP : va_P D vwCl (wB ad ck S0 0 ++ [(q1v, .inr (1, [.int 0, .int 0, .null, .null, .null, .null, .null, .null, .null, .null, .int 0]))]) H := hP
  have hD : va_D (fun q : Nat => s.heap.size ≤ q) (wB ad ck S0 0 ++ [(q1v, .inr (1, [.int 0, .int 0, .null, .null, .null, .null, .null, .null, .null, .null, .int 0]))]) := hD
  refine W.widen (k := 7) (n := 1540) (show 6 + 1 ≤ 7 by omega) (show 1529 + 11 ≤ 1540 by omega) ?_
  refine lv_dup hx hb dL_law_11 rfl ?_
  have hPc := hP.sub (ws' := [(q1v, .inr (1, [.int 0, .int 0, .null, .null, .null, .null, .null, .null, .null, .null, .int 0]))]) [6] rfl
  have hDc := hD.sub (ws' := [(q1v, .inr (1, [.int 0, .int 0, .null, .null, .null, .null, .null, .null, .null, .null, .int 0]))]) [6] (by decide) rfl
  have hKc := hK.sub (tys' := []) [] rfl
  have hFc := va_free (wc := [(q1v, .inr (1, [.int 0, .int 0, .null, .null, .null, .null, .null, .null, .null, .null, .int 0]))]) hD hS hA [6] rfl
  refine va_callv (va_runI (As := []) (rest := [.ref q1v]) ⟨hx, hb, hml, hown, hts⟩ (c1_init l D q1v H.size) (cwI 0 hts gL_law_X1_init rfl rfl rfl (hts (.initialized RX1) (by decide +kernel)) (hts (.methodLink RL 12 yX1_init) (by decide +kernel)) (hts (.instanceMethod yX1_init) (by decide +kernel)) rfl (by decide +kernel) ⟨Nat.le_of_ble_eq_true rfl, Nat.le_of_ble_eq_true rfl⟩) ⟨fun a U g mk q => by obtain ⟨q0, q1, qP, qK, qD⟩ := q; exact ⟨q0, q1, qP, va_K.moved (u := U) (U := U.calling g mk a) (Vm.Alike.refl U.vm) qK, qD⟩, fun U hU hW => ⟨rfl, by rw [hU], by rw [hU]; exact hPc, va_K.moved hW.alike hKc, hDc.weaken (fun _ _ _ _ => trivial)⟩⟩ rfl rfl hl.1 rfl (lv_room (Nat.le_of_ble_eq_true rfl)) dL_law_12 ⟨show 7 + 8 ≤ 15 by omega, show 1540 + 1844 ≤ 3384 by omega⟩) hS (fun q _ h => hFc q h) hFc (fun u t H1 locs ht hvm hw hB hz1 hk1 hS => ?_)
  obtain ⟨bd, dk⟩ := u
  obtain ⟨hbd0, hP1, hK1, hD1⟩ := hB
  rw [ht] at hP1
  have hP1 : va_P D vwCl (wM bd dk S0 0) H1 := hP1
  have hD1 : va_D (va_A [(q1v, .inr (1, [.int 0, .int 0, .null, .null, .null, .null, .null, .null, .null, .null, .int 0]))] H.size) (wM bd dk S0 0) := hD1
  have hK1 : va_K D vwCl (tyM dk) s := va_K.moved hvm.symm hK1
  have hbd0 : bd 0 = q1v := hbd0
  obtain ⟨hP, hD⟩ := va_join (wr := wB ad ck S0 0) (w1 := wM bd dk S0 0) hP hD [6] [0, 1, 2, 3, 4, 5] rfl rfl (by decide) (by decide) hk1 hFc hP1 hD1
  refine W.widen (k := 15) (n := 3384) (show 7 + 8 ≤ 15 by omega) (show 1540 + 1844 ≤ 3384 by omega) ?_
  refine lv_astore_n (lv' := [(2, .ref q1v), (1, .ref q0v), (0, .ref b)]) hx hb dL_law_15 rfl hl (by decide) rfl (fun ls hl => ?_)
  refine lv_iconst (v := nI 0) hx hb dL_law_16 (by decide) ?_
  refine lv_istore_n (lv' := [(3, .int (nI 0)), (2, .ref q1v), (1, .ref q0v), (0, .ref b)]) hx hb dL_law_17 rfl hl (by decide) rfl (fun ls hl => ?_)
  obtain ⟨d1, d2, d3, d4, d5⟩ := two_D hD
  rw [← had0, ← hbd0] at hl
  exact law_loop hL C0 ⟨d1, d2, d3, d4, d5, hK, hK1⟩ (L + 1) 0 (by omega) (Nat.zero_le L) S0 0 iv_S0 H1 locs (hP.sub [0, 1, 2, 3, 4, 5] rfl) (hP.sub [6, 7, 8, 9, 10, 11, 12, 13, 14] rfl) hS ls (lv_sub hl [0, 3, 2, 1] rfl)
end
section
-- ===== YOUR PART ENDS =====
set_option maxHeartbeats 4000000 in
theorem lw_walk (l : Launch) (b : Addr) (xs : List Int32) : MetFree l x (headSpec (Jvm.Cond.code x code maxLocals ret :: tables_1) room_1) (lw_P b xs) (fun _ _ _ _ _ => True) lw_Q := by
  refine MetFree.of_bodyS (code := code) (maxLocals := maxLocals) (ret := ret) (by decide) ?_ ?_
  · intro args s m h hn
    obtain ⟨meth, c, h1, h2, h3, h4, h5, h6, -, -⟩ := Cond.code_spec hn (atoms_spec (ws := Jvm.Cond.code x code maxLocals ret :: tables_1) h _ List.mem_cons_self)
    exact ⟨meth, c, h1, h2, h3, h4, h5, h6⟩
  · intro p e s m args below meth c s₁ B hml0 hP _
    obtain ⟨rfl, hx, hbd, hgv⟩ := hP
    obtain ⟨scr, harrAt, hlist, hof, hsmall⟩ := hx
    obtain ⟨hcb, hkn, -, -⟩ := State.arrayAt?_spec harrAt
    have hown : s.vm.findClass R_law = some m.cls := findClass_of_methodNamed B.named
    have hts0 : ∀ c ∈ (Jvm.Cond.code x code maxLocals ret :: tables_1), c.before #[Value.ref b] s = true := atoms_spec (ws := Jvm.Cond.code x code maxLocals ret :: tables_1) B.pre
    have hts : ∀ w ∈ lw_tbl, w.before #[Value.ref b] s = true := k2_hts_sels lw_privs (fun w hw => hts0 w (List.mem_cons_of_mem _ hw)) lw_privs_ok
    have hml : c.maxLocals = 4 := B.maxLocals_eq (hts0 _ List.mem_cons_self)
    have X₀ : Stand p l e room_1 s m #[Value.ref b] below meth c s₁ [] 0 0 := Stand.of_body B
    have hh0 : s₁.heap = s.heap := by rw [B.state]; rfl
    have hsz : scr.slots.size = xs.length := by rw [← Array.length_toList, hlist, List.length_map]
    have hval : ∀ j : Nat, j < xs.length → scr.slots[j]? = some (.int (xs.getD j 0)) := fun j hj => by
      rw [← Array.getElem?_toList, hlist]
      simp [hj]
    have hbl : b < s.heap.size := (Array.getElem?_eq_some_iff.mp hcb).1
    have hX : va_X b xs.length (fun j => xs.getD j 0) s s.heap := ⟨scr, hcb, hof, hkn, hsz, hval⟩
    have K : W p l e room_1 s m #[Value.ref b] below meth c s₁.heap [] 0 0 (lw_Z below #[Value.ref b] s) (entryFrame m ([Value.ref b] : List Value).toArray 4) := by
      rw [hh0]
      exact whole_start l hbd ⟨B.exec, B.bytes, B.returns, hml, hown, hts, hX, hbl, B.notSynchronized, hgv⟩
    obtain ⟨t, a1, o, b1, b2, b3⟩ := K s₁ rfl X₀
    exact ⟨t, o, a1, b1, b2, b3⟩
theorem lw_pre_spec {args : Array Value} {s : State} (h : (Jvm.Cond.and given_1 narrow_1).before args s = true) (hr : rest_1_c.before args s = true) : ∃ (b : Addr) (xs : List Int32), lw_P b xs args s := by
  have hs := flat_of_before _ h
  have hq := flat_of_before _ hr
  have hc : (Cond.count 1).before args s = true := hs _ (by decide +kernel)
  have harr : (Cond.arrayOf (.arg 0) .int).before args s = true := hs _ (by decide +kernel)
  have hle : (Cond.le (.length (.arg 0)) (.int 2560)).before args s = true := hs _ (by decide +kernel)
  have hlen : (Cond.isInt (.length (.arg 0))).before args s = true := hq _ (by decide +kernel)
  have hall : (Cond.all (.arg 0) (.isInt (.elem (.arg 0) (.index 0)))).before args s = true := hq _ (by decide +kernel)
  obtain ⟨b, xs, hb, hx⟩ := State.ints_of_pre rfl harr hlen hall
  have hsm : xs.length < 2 ^ 31 := hx.choose_spec.2.2.2
  have hev : (Term.length (.arg 0)).eval args s none [] s = some (.int xs.length.toInt32) := hx.length_eval hb
  have hv := Cond.le_ints hev (show (Term.int 2560).eval args s none [] s = some (.int 2560) from rfl)
  have hd : xs.length.toInt32 ≤ 2560 := by
    simpa [Cond.before, Cond.holds, hv] using hle
  have hN : xs.length ≤ 2560 := (Int32.ofNat_le_ofNat hsm (by decide)).mp (show Int32.ofNat xs.length ≤ Int32.ofNat 2560 from hd)
  exact ⟨b, xs, Cond.one_arg hc (show args[0]? = some (.ref b) from hb), hx, hN, h⟩
theorem lw_comes (l : Launch) : Comes l x (Jvm.Cond.code x code maxLocals ret :: tables_1) room_1 (fun tb e args s => Calls_1 tb e args s ∧ rest_1 tb e args s ∧ Pre_1 tb e args s)
    (fun _ _ args s o t => lw_Q args s o t) := by
  intro p e ha hc hk s m args below hf hfit hheap happ hpre
  obtain ⟨b, xs, hP⟩ := lw_pre_spec hpre.2.2 hpre.2.1
  obtain ⟨k, o, h1, h2, h3, hQ⟩ := lw_walk l b xs p e ha hc hk s m args below hf ((Spec.applies_iff_loose hf).mp happ).1 hP trivial
  exact ⟨k, o, h1, h2, h3, hQ⟩
theorem lw_frame {s t : State} {o : Outcome} {args : Array Value} (h : Framed s o t [] 15 3384) :
    Framed s o t (fieldLocs frame_1_writes args s ++ arrayLocs frame_1_arrays args s ++ staticLocs frame_1_statics s) 15 3384 := h
theorem lw_limb (L : Cond) (hL : ∀ (args : Array Value) (s t : State), L.after args s (.returned (some (.int 1))) t = true) :
    ArmFor flags0 classFile x code maxLocals ret World_1 tables_1 room_1 Calls_1 rest_1 Pre_1
      (fun tb e a s o t => postC L tb e a s o t ∧ Framed s o t (fieldLocs frame_1_writes a s ++ arrayLocs frame_1_arrays a s ++ staticLocs frame_1_statics s) 15 3384) := by
  intro l _ _ _ p e ha hc hk s m args below hf hfit hheap happ hpre
  obtain ⟨k, o, h1, h2, h3, rfl, hF⟩ := lw_comes l p e ha hc hk s m args below hf hfit hheap happ hpre
  exact ⟨k, _, h1, h2, h3, hL args s _, lw_frame hF⟩
theorem i_vc : Claimed_1_1 ∧ Claimed_1_2 := ⟨lw_limb limb_1_1 (fun args s t => by simp [limb_1_1, Cond.after, Cond.holds, Cond.value]), lw_limb limb_1_2 (fun args s t => Cond.after_iff.mpr (by
  first | (rw [show limb_1_2 = Cond.eq .result (.int 1) from rfl, Cond.eq_ints (x := 1) (y := 1) rfl rfl]; simp; done) | (simp [limb_1_2, Cond.value, Term.eval]; done)))⟩
end
