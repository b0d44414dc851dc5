section
-- ===== PART A: goes FIRST, ahead of the names: the tables' words, and 'selects' of the private methods out of them =====
/-- a private method of a class that the tables say can be made, by its rows of tables_1 -/
def lw_okq (q : MethodName × Nat) : Prop := (q.1.cls ≠ "java/lang/invoke/MethodHandle" ∧ q.1.cls ≠ "java/lang/invoke/VarHandle") ∧ Cond.instantiable q.1.cls q.2 ∈ tables_1 ∧ Cond.privateMethod q.1 ∈ tables_1 ∧ Cond.instanceMethod q.1 ∈ tables_1
theorem lw_p0 : lw_okq (⟨"VarveClock", "isLayer", "(I)Z"⟩, 4) := ⟨⟨by decide +kernel, by decide +kernel⟩, List.mem_of_getElem? (i := 9) (by decide +kernel), List.mem_of_getElem? (i := 179) (by decide +kernel), List.mem_of_getElem? (i := 180) (by decide +kernel)⟩
theorem lw_p1 : lw_okq (⟨"VarveClock", "beginChange", "()V"⟩, 4) := ⟨⟨by decide +kernel, by decide +kernel⟩, List.mem_of_getElem? (i := 9) (by decide +kernel), List.mem_of_getElem? (i := 186) (by decide +kernel), List.mem_of_getElem? (i := 187) (by decide +kernel)⟩
theorem lw_p2 : lw_okq (⟨"VarveClock", "isAshOfRange", "(III)Z"⟩, 4) := ⟨⟨by decide +kernel, by decide +kernel⟩, List.mem_of_getElem? (i := 9) (by decide +kernel), List.mem_of_getElem? (i := 245) (by decide +kernel), List.mem_of_getElem? (i := 246) (by decide +kernel)⟩
theorem lw_p3 : lw_okq (⟨"VarveClock", "isAsh", "(I)Z"⟩, 4) := ⟨⟨by decide +kernel, by decide +kernel⟩, List.mem_of_getElem? (i := 9) (by decide +kernel), List.mem_of_getElem? (i := 261) (by decide +kernel), List.mem_of_getElem? (i := 262) (by decide +kernel)⟩
theorem lw_p4 : lw_okq (⟨"VarveClock$Reckoning", "makeBelow", "()V"⟩, 15) := ⟨⟨by decide +kernel, by decide +kernel⟩, List.mem_of_getElem? (i := 105) (by decide +kernel), List.mem_of_getElem? (i := 298) (by decide +kernel), List.mem_of_getElem? (i := 299) (by decide +kernel)⟩
theorem lw_p5 : lw_okq (⟨"VarveClock$Reckoning", "clearRow", "([II)V"⟩, 15) := ⟨⟨by decide +kernel, by decide +kernel⟩, List.mem_of_getElem? (i := 105) (by decide +kernel), List.mem_of_getElem? (i := 307) (by decide +kernel), List.mem_of_getElem? (i := 308) (by decide +kernel)⟩
theorem lw_p6 : lw_okq (⟨"VarveClock$Reckoning", "addAshCosts", "(I[I)V"⟩, 15) := ⟨⟨by decide +kernel, by decide +kernel⟩, List.mem_of_getElem? (i := 105) (by decide +kernel), List.mem_of_getElem? (i := 311) (by decide +kernel), List.mem_of_getElem? (i := 312) (by decide +kernel)⟩
theorem lw_p7 : lw_okq (⟨"VarveClock$Reckoning", "addOwnCosts", "(IZ)V"⟩, 15) := ⟨⟨by decide +kernel, by decide +kernel⟩, List.mem_of_getElem? (i := 105) (by decide +kernel), List.mem_of_getElem? (i := 325) (by decide +kernel), List.mem_of_getElem? (i := 326) (by decide +kernel)⟩
theorem lw_p8 : lw_okq (⟨"VarveClock$Reckoning", "addMissingCosts", "(IZ[I)V"⟩, 15) := ⟨⟨by decide +kernel, by decide +kernel⟩, List.mem_of_getElem? (i := 105) (by decide +kernel), List.mem_of_getElem? (i := 341) (by decide +kernel), List.mem_of_getElem? (i := 342) (by decide +kernel)⟩
theorem lw_p9 : lw_okq (⟨"VarveClock$Reckoning", "costFrom", "(IIZ)I"⟩, 15) := ⟨⟨by decide +kernel, by decide +kernel⟩, List.mem_of_getElem? (i := 105) (by decide +kernel), List.mem_of_getElem? (i := 345) (by decide +kernel), List.mem_of_getElem? (i := 346) (by decide +kernel)⟩
theorem lw_p10 : lw_okq (⟨"VarveClock$Reckoning", "followBest", "()V"⟩, 15) := ⟨⟨by decide +kernel, by decide +kernel⟩, List.mem_of_getElem? (i := 105) (by decide +kernel), List.mem_of_getElem? (i := 353) (by decide +kernel), List.mem_of_getElem? (i := 354) (by decide +kernel)⟩
theorem lw_p11 : lw_okq (⟨"VarveClock$Reckoning", "chooseYears", "(II)V"⟩, 15) := ⟨⟨by decide +kernel, by decide +kernel⟩, List.mem_of_getElem? (i := 105) (by decide +kernel), List.mem_of_getElem? (i := 357) (by decide +kernel), List.mem_of_getElem? (i := 358) (by decide +kernel)⟩
theorem lw_p12 : lw_okq (⟨"VarveClock", "isPlace", "(I)Z"⟩, 4) := ⟨⟨by decide +kernel, by decide +kernel⟩, List.mem_of_getElem? (i := 9) (by decide +kernel), List.mem_of_getElem? (i := 370) (by decide +kernel), List.mem_of_getElem? (i := 371) (by decide +kernel)⟩
theorem lw_p13 : lw_okq (⟨"VarveClock$Reckoning", "makeAbove", "()V"⟩, 15) := ⟨⟨by decide +kernel, by decide +kernel⟩, List.mem_of_getElem? (i := 105) (by decide +kernel), List.mem_of_getElem? (i := 382) (by decide +kernel), List.mem_of_getElem? (i := 383) (by decide +kernel)⟩
theorem lw_p14 : lw_okq (⟨"VarveClock$Reckoning", "costThrough", "(II)I"⟩, 15) := ⟨⟨by decide +kernel, by decide +kernel⟩, List.mem_of_getElem? (i := 105) (by decide +kernel), List.mem_of_getElem? (i := 386) (by decide +kernel), List.mem_of_getElem? (i := 387) (by decide +kernel)⟩
theorem lw_p15 : lw_okq (⟨"VarveClock$Reckoning", "countWays", "()I"⟩, 15) := ⟨⟨by decide +kernel, by decide +kernel⟩, List.mem_of_getElem? (i := 105) (by decide +kernel), List.mem_of_getElem? (i := 449) (by decide +kernel), List.mem_of_getElem? (i := 450) (by decide +kernel)⟩
def lw_privs_1 : List (MethodName × Nat) := [(⟨"VarveClock", "isLayer", "(I)Z"⟩, 4), (⟨"VarveClock", "beginChange", "()V"⟩, 4), (⟨"VarveClock", "isAshOfRange", "(III)Z"⟩, 4), (⟨"VarveClock", "isAsh", "(I)Z"⟩, 4), (⟨"VarveClock$Reckoning", "makeBelow", "()V"⟩, 15), (⟨"VarveClock$Reckoning", "clearRow", "([II)V"⟩, 15), (⟨"VarveClock$Reckoning", "addAshCosts", "(I[I)V"⟩, 15), (⟨"VarveClock$Reckoning", "addOwnCosts", "(IZ)V"⟩, 15), (⟨"VarveClock$Reckoning", "addMissingCosts", "(IZ[I)V"⟩, 15), (⟨"VarveClock$Reckoning", "costFrom", "(IIZ)I"⟩, 15), (⟨"VarveClock$Reckoning", "followBest", "()V"⟩, 15), (⟨"VarveClock$Reckoning", "chooseYears", "(II)V"⟩, 15), (⟨"VarveClock", "isPlace", "(I)Z"⟩, 4), (⟨"VarveClock$Reckoning", "makeAbove", "()V"⟩, 15), (⟨"VarveClock$Reckoning", "costThrough", "(II)I"⟩, 15), (⟨"VarveClock$Reckoning", "countWays", "()I"⟩, 15)]
theorem lw_r1 : ∀ q ∈ lw_privs_1, lw_okq q := List.forall_mem_cons.mpr ⟨lw_p0, List.forall_mem_cons.mpr ⟨lw_p1, List.forall_mem_cons.mpr ⟨lw_p2, List.forall_mem_cons.mpr ⟨lw_p3, List.forall_mem_cons.mpr ⟨lw_p4, List.forall_mem_cons.mpr ⟨lw_p5, List.forall_mem_cons.mpr ⟨lw_p6, List.forall_mem_cons.mpr ⟨lw_p7, List.forall_mem_cons.mpr ⟨lw_p8, List.forall_mem_cons.mpr ⟨lw_p9, List.forall_mem_cons.mpr ⟨lw_p10, List.forall_mem_cons.mpr ⟨lw_p11, List.forall_mem_cons.mpr ⟨lw_p12, List.forall_mem_cons.mpr ⟨lw_p13, List.forall_mem_cons.mpr ⟨lw_p14, List.forall_mem_cons.mpr ⟨lw_p15, fun _ h => absurd h List.not_mem_nil⟩⟩⟩⟩⟩⟩⟩⟩⟩⟩⟩⟩⟩⟩⟩⟩
theorem lw_p16 : lw_okq (⟨"VarveClock$Reckoning", "handOnWays", "(II)V"⟩, 15) := ⟨⟨by decide +kernel, by decide +kernel⟩, List.mem_of_getElem? (i := 105) (by decide +kernel), List.mem_of_getElem? (i := 453) (by decide +kernel), List.mem_of_getElem? (i := 454) (by decide +kernel)⟩
def lw_privs_2 : List (MethodName × Nat) := [(⟨"VarveClock$Reckoning", "handOnWays", "(II)V"⟩, 15)]
theorem lw_r2 : ∀ q ∈ lw_privs_2, lw_okq q := List.forall_mem_cons.mpr ⟨lw_p16, fun _ h => absurd h List.not_mem_nil⟩
def lw_privs : List (MethodName × Nat) := lw_privs_1 ++ (lw_privs_2)
def lw_tbl : List Cond := k2_sels lw_privs ++ tables_1
theorem lw_privs_ok : ∀ q ∈ lw_privs, lw_okq q := by
  show ∀ q ∈ lw_privs_1 ++ (lw_privs_2), lw_okq q
  exact List.forall_mem_append.mpr ⟨lw_r1, lw_r2⟩
end
section
/-! ===== BEGIN words of one list among another's, by their places ===== -/
theorem goodIn_r {big : List Cond} (ws : List Cond) (ps : List Nat) (hp : ws = ps.filterMap (fun i => big[i]?)) (h : ws.all goodWord = true) : GoodIn big ws := by
  intro w hw
  have h1 := List.all_eq_true.mp h w hw
  rw [hp] at hw
  obtain ⟨i, -, hi⟩ := List.mem_filterMap.mp hw
  have hm : w ∈ big := by first | exact List.mem_of_getElem? hi | exact List.getElem?_mem hi
  exact ⟨hm, good_of_word h1⟩
theorem goodIn_app {big a b : List Cond} (ha : GoodIn big a) (hb : GoodIn big b) : GoodIn big (a ++ b) := fun w h => (List.mem_append.mp h).elim (ha w) (hb w)
theorem goodIn_ca {big a b : List Cond} {c : Cond} (ha : GoodIn big (c :: a)) (hb : GoodIn big b) : GoodIn big (c :: (a ++ b)) := fun w h => (List.mem_cons.mp h).elim (fun e => ha w (List.mem_cons.mpr (Or.inl e))) (fun h => (List.mem_append.mp h).elim (fun h => ha w (List.mem_cons.mpr (Or.inr h))) (hb w))
theorem goodIn_sub {big ws : List Cond} (hm : ∀ w ∈ ws, w ∈ big) (h : ws.all goodWord = true) : GoodIn big ws := fun w hw => ⟨hm w hw, good_of_word (List.all_eq_true.mp h w hw)⟩
/-! ===== END ===== -/

def RX0 : String := "VarveClock$Core"
def TX0 : u_T := fun k => match k with
  | 0 => ("VarveClock$Core", "thickness", "[I", true)
  | 1 => ("VarveClock$Core", "kind", "[I", true)
  | 2 => ("VarveClock$Core", "missing", "[I", true)
  | 3 => ("VarveClock$Core", "place", "[I", true)
  | 4 => ("VarveClock$Core", "ashAge", "[I", true)
  | 5 => ("VarveClock$Core", "uncertainty", "[I", true)
  | 6 => ("VarveClock$Core", "setting", "[I", true)
  | 7 => ("VarveClock$Core", "layers", "I", false)
  | _ => ("VarveClock$Core", "ashes", "I", false)
def tyX0 : Nat → FieldType := fun k => match k with
  | 0 => .array .int
  | 1 => .array .int
  | 2 => .array .int
  | 3 => .array .int
  | 4 => .array .int
  | 5 => .array .int
  | 6 => .array .int
  | 7 => .int
  | _ => .int
abbrev wsX00 : List Cond := u_ws RX0 TX0 9
theorem nmX0 : ∀ a, a < 9 → ∀ b, b < 9 → a ≠ b → (TX0 a).2.1 ≠ (TX0 b).2.1 := by decide +kernel
theorem tyX0_ok : ∀ k, k < 9 → parseFieldDescriptor (TX0 k).2.2.1 = some (tyX0 k) := by decide +kernel
abbrev cX0_init : ByteArray := prog_2_method_1_code
def yX0_init : MethodName := ⟨RX0, "<init>", "()V"⟩
abbrev cX0_takeAll : ByteArray := prog_2_method_3_code
def yX0_takeAll : MethodName := ⟨RX0, "takeAll", "(LVarveClock$Core;)V"⟩
abbrev cX0_takeLayersAndAshes : ByteArray := prog_2_method_4_code
def yX0_takeLayersAndAshes : MethodName := ⟨RX0, "takeLayersAndAshes", "(LVarveClock$Core;)V"⟩
abbrev cX0_layerProperties : ByteArray := prog_2_method_5_code
def yX0_layerProperties : MethodName := ⟨RX0, "layerProperties", "(I)[I"⟩
abbrev cX0_ashProperties : ByteArray := prog_2_method_6_code
def yX0_ashProperties : MethodName := ⟨RX0, "ashProperties", "(I)[I"⟩
abbrev cX0_insertLayer : ByteArray := prog_2_method_7_code
def yX0_insertLayer : MethodName := ⟨RX0, "insertLayer", "(IIII)V"⟩
abbrev cX0_deleteLayer : ByteArray := prog_2_method_8_code
def yX0_deleteLayer : MethodName := ⟨RX0, "deleteLayer", "(I)V"⟩
abbrev cX0_insertAsh : ByteArray := prog_2_method_9_code
def yX0_insertAsh : MethodName := ⟨RX0, "insertAsh", "(III)I"⟩
abbrev cX0_deleteAsh : ByteArray := prog_2_method_10_code
def yX0_deleteAsh : MethodName := ⟨RX0, "deleteAsh", "(I)V"⟩
abbrev cX0_ashAt : ByteArray := prog_2_method_11_code
def yX0_ashAt : MethodName := ⟨RX0, "ashAt", "(I)I"⟩
abbrev cX0_thicknessBetween : ByteArray := prog_2_method_12_code
def yX0_thicknessBetween : MethodName := ⟨RX0, "thicknessBetween", "(II)I"⟩
abbrev cX0_layersOfKind : ByteArray := prog_2_method_13_code
def yX0_layersOfKind : MethodName := ⟨RX0, "layersOfKind", "(I)I"⟩
abbrev cX0_leastOwn : ByteArray := prog_2_method_14_code
def yX0_leastOwn : MethodName := ⟨RX0, "leastOwn", "(I)I"⟩
abbrev cX0_mostOwn : ByteArray := prog_2_method_15_code
def yX0_mostOwn : MethodName := ⟨RX0, "mostOwn", "(I)I"⟩
abbrev cX0_mostYears : ByteArray := prog_2_method_16_code
def yX0_mostYears : MethodName := ⟨RX0, "mostYears", "(I)I"⟩
abbrev cX0_ownCost : ByteArray := prog_2_method_17_code
def yX0_ownCost : MethodName := ⟨RX0, "ownCost", "(II)I"⟩
abbrev cX0_missingCost : ByteArray := prog_2_method_18_code
def yX0_missingCost : MethodName := ⟨RX0, "missingCost", "(I)I"⟩
abbrev cX0_ashCost : ByteArray := prog_2_method_19_code
def yX0_ashCost : MethodName := ⟨RX0, "ashCost", "(II)I"⟩
abbrev cX0_fitsWith : ByteArray := prog_2_method_20_code
def yX0_fitsWith : MethodName := ⟨RX0, "fitsWith", "(I)Z"⟩
abbrev cX0_insertAt : ByteArray := prog_2_method_21_code
def yX0_insertAt : MethodName := ⟨RX0, "insertAt", "([IIII)V"⟩
abbrev cX0_deleteAt : ByteArray := prog_2_method_22_code
def yX0_deleteAt : MethodName := ⟨RX0, "deleteAt", "([III)V"⟩
def RX1 : String := "VarveClock$History"
def TX1 : u_T := fun k => match k with
  | 0 => ("VarveClock$History", "states", "[LVarveClock$Core;", true)
  | 1 => ("VarveClock$History", "next", "I", false)
  | _ => ("VarveClock$History", "size", "I", false)
def tyX1 : Nat → FieldType := fun k => match k with
  | 0 => .array (.object "VarveClock$Core")
  | 1 => .int
  | _ => .int
abbrev wsX10 : List Cond := u_ws RX1 TX1 3
theorem nmX1 : ∀ a, a < 3 → ∀ b, b < 3 → a ≠ b → (TX1 a).2.1 ≠ (TX1 b).2.1 := by decide +kernel
theorem tyX1_ok : ∀ k, k < 3 → parseFieldDescriptor (TX1 k).2.2.1 = some (tyX1 k) := by decide +kernel
abbrev cX1_init : ByteArray := prog_3_method_1_code
def yX1_init : MethodName := ⟨RX1, "<init>", "()V"⟩
abbrev cX1_keep : ByteArray := prog_3_method_2_code
def yX1_keep : MethodName := ⟨RX1, "keep", "(LVarveClock$Core;)V"⟩
abbrev cX1_restore : ByteArray := prog_3_method_3_code
def yX1_restore : MethodName := ⟨RX1, "restore", "(LVarveClock$Core;)V"⟩
def RX2 : String := "VarveClock$Reckoning"
def TX2 : u_T := fun k => match k with
  | 0 => ("VarveClock$Reckoning", "core", "LVarveClock$Core;", true)
  | 1 => ("VarveClock$Reckoning", "above", "[[I", true)
  | 2 => ("VarveClock$Reckoning", "below", "[[I", true)
  | 3 => ("VarveClock$Reckoning", "withAsh", "[I", true)
  | 4 => ("VarveClock$Reckoning", "withOwn", "[I", true)
  | 5 => ("VarveClock$Reckoning", "queue", "[I", true)
  | 6 => ("VarveClock$Reckoning", "waysHere", "[I", true)
  | 7 => ("VarveClock$Reckoning", "waysNext", "[I", true)
  | 8 => ("VarveClock$Reckoning", "bestOwn", "[I", true)
  | 9 => ("VarveClock$Reckoning", "bestMissing", "[I", true)
  | 10 => ("VarveClock$Reckoning", "bestAge", "[I", true)
  | 11 => ("VarveClock$Reckoning", "oldest", "I", false)
  | 12 => ("VarveClock$Reckoning", "belowStands", "Z", false)
  | 13 => ("VarveClock$Reckoning", "aboveStands", "Z", false)
  | _ => ("VarveClock$Reckoning", "knownWays", "I", false)
def tyX2 : Nat → FieldType := fun k => match k with
  | 0 => .object "VarveClock$Core"
  | 1 => .array (.array .int)
  | 2 => .array (.array .int)
  | 3 => .array .int
  | 4 => .array .int
  | 5 => .array .int
  | 6 => .array .int
  | 7 => .array .int
  | 8 => .array .int
  | 9 => .array .int
  | 10 => .array .int
  | 11 => .int
  | 12 => .boolean
  | 13 => .boolean
  | _ => .int
abbrev wsX20 : List Cond := u_ws RX2 TX2 15
theorem nmX2 : ∀ a, a < 15 → ∀ b, b < 15 → a ≠ b → (TX2 a).2.1 ≠ (TX2 b).2.1 := by decide +kernel
theorem tyX2_ok : ∀ k, k < 15 → parseFieldDescriptor (TX2 k).2.2.1 = some (tyX2 k) := by decide +kernel
abbrev cX2_init : ByteArray := prog_4_method_1_code
def yX2_init : MethodName := ⟨RX2, "<init>", "(LVarveClock$Core;)V"⟩
abbrev cX2_forget : ByteArray := prog_4_method_2_code
def yX2_forget : MethodName := ⟨RX2, "forget", "()V"⟩
abbrev cX2_hasCount : ByteArray := prog_4_method_3_code
def yX2_hasCount : MethodName := ⟨RX2, "hasCount", "()Z"⟩
abbrev cX2_leastCost : ByteArray := prog_4_method_4_code
def yX2_leastCost : MethodName := ⟨RX2, "leastCost", "()I"⟩
abbrev cX2_offsetOf : ByteArray := prog_4_method_5_code
def yX2_offsetOf : MethodName := ⟨RX2, "offsetOf", "(I)I"⟩
abbrev cX2_layersWith : ByteArray := prog_4_method_6_code
def yX2_layersWith : MethodName := ⟨RX2, "layersWith", "(II)I"⟩
abbrev cX2_allMissing : ByteArray := prog_4_method_7_code
def yX2_allMissing : MethodName := ⟨RX2, "allMissing", "()I"⟩
abbrev cX2_allOffsets : ByteArray := prog_4_method_8_code
def yX2_allOffsets : MethodName := ⟨RX2, "allOffsets", "()I"⟩
abbrev cX2_leastWithoutAsh : ByteArray := prog_4_method_9_code
def yX2_leastWithoutAsh : MethodName := ⟨RX2, "leastWithoutAsh", "(I)I"⟩
abbrev cX2_leastWithAsh : ByteArray := prog_4_method_10_code
def yX2_leastWithAsh : MethodName := ⟨RX2, "leastWithAsh", "(III)I"⟩
abbrev cX2_leastAge : ByteArray := prog_4_method_11_code
def yX2_leastAge : MethodName := ⟨RX2, "leastAge", "(II)I"⟩
abbrev cX2_greatestAge : ByteArray := prog_4_method_12_code
def yX2_greatestAge : MethodName := ⟨RX2, "greatestAge", "(II)I"⟩
abbrev cX2_costThrough : ByteArray := prog_4_method_13_code
def yX2_costThrough : MethodName := ⟨RX2, "costThrough", "(II)I"⟩
abbrev cX2_numberOfWays : ByteArray := prog_4_method_14_code
def yX2_numberOfWays : MethodName := ⟨RX2, "numberOfWays", "()I"⟩
abbrev cX2_countWays : ByteArray := prog_4_method_15_code
def yX2_countWays : MethodName := ⟨RX2, "countWays", "()I"⟩
abbrev cX2_handOnWays : ByteArray := prog_4_method_16_code
def yX2_handOnWays : MethodName := ⟨RX2, "handOnWays", "(II)V"⟩
abbrev cX2_makeBelow : ByteArray := prog_4_method_17_code
def yX2_makeBelow : MethodName := ⟨RX2, "makeBelow", "()V"⟩
abbrev cX2_makeAbove : ByteArray := prog_4_method_18_code
def yX2_makeAbove : MethodName := ⟨RX2, "makeAbove", "()V"⟩
abbrev cX2_clearRow : ByteArray := prog_4_method_19_code
def yX2_clearRow : MethodName := ⟨RX2, "clearRow", "([II)V"⟩
abbrev cX2_addAshCosts : ByteArray := prog_4_method_20_code
def yX2_addAshCosts : MethodName := ⟨RX2, "addAshCosts", "(I[I)V"⟩
abbrev cX2_addOwnCosts : ByteArray := prog_4_method_21_code
def yX2_addOwnCosts : MethodName := ⟨RX2, "addOwnCosts", "(IZ)V"⟩
abbrev cX2_addMissingCosts : ByteArray := prog_4_method_22_code
def yX2_addMissingCosts : MethodName := ⟨RX2, "addMissingCosts", "(IZ[I)V"⟩
abbrev cX2_costFrom : ByteArray := prog_4_method_23_code
def yX2_costFrom : MethodName := ⟨RX2, "costFrom", "(IIZ)I"⟩
abbrev cX2_followBest : ByteArray := prog_4_method_24_code
def yX2_followBest : MethodName := ⟨RX2, "followBest", "()V"⟩
abbrev cX2_chooseYears : ByteArray := prog_4_method_25_code
def yX2_chooseYears : MethodName := ⟨RX2, "chooseYears", "(II)V"⟩
def RX3 : String := "VarveClock$Script"
def TX3 : u_T := fun k => match k with
  | 0 => ("VarveClock$Script", "signs", "[C", true)
  | 1 => ("VarveClock$Script", "draft", "LVarveClock$Core;", true)
  | 2 => ("VarveClock$Script", "length", "I", false)
  | _ => ("VarveClock$Script", "at", "I", false)
def tyX3 : Nat → FieldType := fun k => match k with
  | 0 => .array .char
  | 1 => .object "VarveClock$Core"
  | 2 => .int
  | _ => .int
abbrev wsX30 : List Cond := u_ws RX3 TX3 4
theorem nmX3 : ∀ a, a < 4 → ∀ b, b < 4 → a ≠ b → (TX3 a).2.1 ≠ (TX3 b).2.1 := by decide +kernel
theorem tyX3_ok : ∀ k, k < 4 → parseFieldDescriptor (TX3 k).2.2.1 = some (tyX3 k) := by decide +kernel
abbrev cX3_init : ByteArray := prog_5_method_1_code
def yX3_init : MethodName := ⟨RX3, "<init>", "()V"⟩
def RX4 : String := "VarveClock"
def TX4 : u_T := fun k => match k with
  | 0 => ("VarveClock", "core", "LVarveClock$Core;", true)
  | 1 => ("VarveClock", "history", "LVarveClock$History;", true)
  | 2 => ("VarveClock", "script", "LVarveClock$Script;", true)
  | _ => ("VarveClock", "reckoning", "LVarveClock$Reckoning;", true)
def tyX4 : Nat → FieldType := fun k => match k with
  | 0 => .object "VarveClock$Core"
  | 1 => .object "VarveClock$History"
  | 2 => .object "VarveClock$Script"
  | _ => .object "VarveClock$Reckoning"
abbrev wsX40 : List Cond := u_ws RX4 TX4 4
theorem nmX4 : ∀ a, a < 4 → ∀ b, b < 4 → a ≠ b → (TX4 a).2.1 ≠ (TX4 b).2.1 := by decide +kernel
theorem tyX4_ok : ∀ k, k < 4 → parseFieldDescriptor (TX4 k).2.2.1 = some (tyX4 k) := by decide +kernel
abbrev cX4_init : ByteArray := prog_1_method_1_code
def yX4_init : MethodName := ⟨RX4, "<init>", "()V"⟩
abbrev cX4_addLayer : ByteArray := prog_1_method_2_code
def yX4_addLayer : MethodName := ⟨RX4, "addLayer", "(IIII)I"⟩
abbrev cX4_removeLayer : ByteArray := prog_1_method_3_code
def yX4_removeLayer : MethodName := ⟨RX4, "removeLayer", "(I)I"⟩
abbrev cX4_setLayer : ByteArray := prog_1_method_4_code
def yX4_setLayer : MethodName := ⟨RX4, "setLayer", "(III)I"⟩
abbrev cX4_addAsh : ByteArray := prog_1_method_5_code
def yX4_addAsh : MethodName := ⟨RX4, "addAsh", "(III)I"⟩
abbrev cX4_removeAsh : ByteArray := prog_1_method_6_code
def yX4_removeAsh : MethodName := ⟨RX4, "removeAsh", "(I)I"⟩
abbrev cX4_set : ByteArray := prog_1_method_7_code
def yX4_set : MethodName := ⟨RX4, "set", "(II)I"⟩
abbrev cX4_undo : ByteArray := prog_1_method_9_code
def yX4_undo : MethodName := ⟨RX4, "undo", "()I"⟩
abbrev cX4_count : ByteArray := prog_1_method_10_code
def yX4_count : MethodName := ⟨RX4, "count", "(I)I"⟩
abbrev cX4_layer : ByteArray := prog_1_method_11_code
def yX4_layer : MethodName := ⟨RX4, "layer", "(II)I"⟩
abbrev cX4_ash : ByteArray := prog_1_method_12_code
def yX4_ash : MethodName := ⟨RX4, "ash", "(II)I"⟩
abbrev cX4_cost : ByteArray := prog_1_method_13_code
def yX4_cost : MethodName := ⟨RX4, "cost", "()I"⟩
abbrev cX4_years : ByteArray := prog_1_method_14_code
def yX4_years : MethodName := ⟨RX4, "years", "(II)I"⟩
abbrev cX4_age : ByteArray := prog_1_method_15_code
def yX4_age : MethodName := ⟨RX4, "age", "(I)I"⟩
abbrev cX4_offset : ByteArray := prog_1_method_16_code
def yX4_offset : MethodName := ⟨RX4, "offset", "(I)I"⟩
abbrev cX4_total : ByteArray := prog_1_method_17_code
def yX4_total : MethodName := ⟨RX4, "total", "(I)I"⟩
abbrev cX4_ways : ByteArray := prog_1_method_18_code
def yX4_ways : MethodName := ⟨RX4, "ways", "()I"⟩
abbrev cX4_bound : ByteArray := prog_1_method_20_code
def yX4_bound : MethodName := ⟨RX4, "bound", "(III)I"⟩
abbrev cX4_without : ByteArray := prog_1_method_21_code
def yX4_without : MethodName := ⟨RX4, "without", "(I)I"⟩
abbrev cX4_widen : ByteArray := prog_1_method_22_code
def yX4_widen : MethodName := ⟨RX4, "widen", "()I"⟩
abbrev cX4_costWith : ByteArray := prog_1_method_23_code
def yX4_costWith : MethodName := ⟨RX4, "costWith", "(III)I"⟩
abbrev cX4_beginChange : ByteArray := prog_1_method_27_code
def yX4_beginChange : MethodName := ⟨RX4, "beginChange", "()V"⟩
abbrev cX4_isLayer : ByteArray := prog_1_method_28_code
def yX4_isLayer : MethodName := ⟨RX4, "isLayer", "(I)Z"⟩
abbrev cX4_isPlace : ByteArray := prog_1_method_29_code
def yX4_isPlace : MethodName := ⟨RX4, "isPlace", "(I)Z"⟩
abbrev cX4_isAsh : ByteArray := prog_1_method_30_code
def yX4_isAsh : MethodName := ⟨RX4, "isAsh", "(I)Z"⟩
abbrev cX4_isAshOfRange : ByteArray := prog_1_method_31_code
def yX4_isAshOfRange : MethodName := ⟨RX4, "isAshOfRange", "(III)Z"⟩
abbrev cX4_isWithin : ByteArray := prog_1_method_32_code
def yX4_isWithin : MethodName := ⟨RX4, "isWithin", "(III)Z"⟩
abbrev cX4_leastProperty : ByteArray := prog_1_method_33_code
def yX4_leastProperty : MethodName := ⟨RX4, "leastProperty", "(I)I"⟩
abbrev cX4_mostProperty : ByteArray := prog_1_method_34_code
def yX4_mostProperty : MethodName := ⟨RX4, "mostProperty", "(I)I"⟩
abbrev cX4_costOrNotFound : ByteArray := prog_1_method_35_code
def yX4_costOrNotFound : MethodName := ⟨RX4, "costOrNotFound", "(I)I"⟩
def RX5 : String := "VarveClockModel"
def TX5 : u_T := fun k => match k with
  | _ => ("", "", "", false)
def tyX5 : Nat → FieldType := fun k => match k with
  | _ => .int
abbrev wsX50 : List Cond := u_ws RX5 TX5 0
theorem nmX5 : ∀ a, a < 0 → ∀ b, b < 0 → a ≠ b → (TX5 a).2.1 ≠ (TX5 b).2.1 := by decide +kernel
theorem tyX5_ok : ∀ k, k < 0 → parseFieldDescriptor (TX5 k).2.2.1 = some (tyX5 k) := by decide +kernel
def RJ9 : String := "java/lang/Math"
abbrev cJ9_abs_0f7a4 : ByteArray := prog_8_method_59_code
def yJ9_abs_0f7a4 : MethodName := ⟨RJ9, "abs", "(I)I"⟩
abbrev cJ9_max_7cf53 : ByteArray := prog_8_method_65_code
def yJ9_max_7cf53 : MethodName := ⟨RJ9, "max", "(II)I"⟩
abbrev cJ9_min_7cf53 : ByteArray := prog_8_method_69_code
def yJ9_min_7cf53 : MethodName := ⟨RJ9, "min", "(II)I"⟩
def RJ10 : String := "java/lang/System"
def RL : String := "VarveClockLaw"
abbrev cL_cell : ByteArray := method_2_code
def yL_cell : MethodName := ⟨RL, "cell", "([II)I"⟩
abbrev cL_builds : ByteArray := method_3_code
def yL_builds : MethodName := ⟨RL, "builds", "(LVarveClock;[I)I"⟩
abbrev cL_holds : ByteArray := method_4_code
def yL_holds : MethodName := ⟨RL, "holds", "(LVarveClock;I)Z"⟩
abbrev cL_law : ByteArray := code
def yL_law : MethodName := ⟨RL, "law", "([I)Z"⟩
abbrev vwCl : List vw_C := [(RX0, TX0, 9), (RX1, TX1, 3), (RX2, TX2, 15), (RX3, TX3, 4), (RX4, TX4, 4)]
end
section
/-! THE TWIN: an abstract machine over ints and a store, beside the real one. A value: an int, or the place (kind, number) of an object. The store: what each object holds at each place. -/
abbrev AV : Type := Int ⊕ (Nat × Int)
abbrev Sto : Type := Nat → Int → Int → Int
abbrev AMI : Type := Nat × Int × Nat × Nat × Nat × Nat
abbrev inR (x : Int) : Prop := -2147483648 ≤ x ∧ x ≤ 2147483647
def upS (σ : Sto) (k : Nat) (i j v : Int) : Sto := fun k' i' j' => if k' = k ∧ i' = i ∧ j' = j then v else σ k' i' j'
def cpS (σ : Sto) (k1 : Nat) (i1 sp : Int) (k2 : Nat) (i2 dp n : Int) : Sto := fun k i j => if k = k2 ∧ i = i2 ∧ dp ≤ j ∧ j < dp + n then σ k1 i1 (sp + (j - dp)) else σ k i j
def setl : List AV → Nat → AV → Option (List AV)
  | [], 0, v => some [v]
  | [], _ + 1, _ => none
  | _ :: l, 0, v => some (v :: l)
  | a :: l, k + 1, v => match setl l k v with
    | some l' => some (a :: l')
    | none => none
def popn : Nat → List AV → List AV → Option (List AV × List AV)
  | 0, acc, st => some (acc, st)
  | _ + 1, _, [] => none
  | n + 1, acc, v :: st => popn n (v :: acc) st
/-- kinds of objects: 0 VarveClock, 1 History, 2 Script, 3 Reckoning, 4 its states, 5 signs, 6 above, 7 below, 8.. the rows of Reckoning, 16 Core, 17.. its rows, 24 the rows of above, 25 of below; 26 the model, 27.. its rows; 40 texts; 41 the script -/
def clsK (k : Nat) : Option Nat := match k with
  | 16 => some 0
  | 1 => some 1
  | 3 => some 2
  | 2 => some 3
  | 0 => some 4
  | _ => none
/-- int arrays: their lengths -/
def lenI (k : Nat) : Option Int := match k with
  | 8 => some 601
  | 9 => some 601
  | 10 => some 601
  | 11 => some 601
  | 12 => some 601
  | 13 => some 50
  | 14 => some 50
  | 15 => some 51
  | 17 => some 50
  | 18 => some 50
  | 19 => some 50
  | 20 => some 6
  | 21 => some 6
  | 22 => some 6
  | 23 => some 4
  | 24 => some 601
  | 25 => some 601
  | _ => none
def lenC (k : Nat) : Option Int := match k with
  | 5 => some 90
  | _ => none
def lenR (k : Nat) : Option Int := match k with
  | 4 => some 6
  | 6 => some 51
  | 7 => some 51
  | _ => none
/-- what a place of an array of references holds -/
def refA (k : Nat) (j : Int) : Nat × Int := match k with
  | 4 => (16, 2 + j)
  | 6 => (24, j)
  | _ => (25, j)
/-- how many of a kind -/
def cntK (k : Nat) : Int := match k with
  | 16 => 8
  | 17 => 8
  | 18 => 8
  | 19 => 8
  | 20 => 8
  | 21 => 8
  | 22 => 8
  | 23 => 8
  | 24 => 51
  | 25 => 51
  | 41 => 1
  | _ => if k < 26 then 1 else 0
/-- a field: none: there is none; on the right: an int, at that place; on the left: a reference, always to the same -/
def fldK (k : Nat) (i : Int) (f : Nat) : Option ((Nat × Int) ⊕ Int) := match k, f with
  | 0, 0 => some (.inl (16, 0))
  | 0, 1 => some (.inl (1, 0))
  | 0, 2 => some (.inl (2, 0))
  | 0, 3 => some (.inl (3, 0))
  | 1, 0 => some (.inl (4, 0))
  | 1, 1 => some (.inr 1)
  | 1, 2 => some (.inr 2)
  | 2, 0 => some (.inl (5, 0))
  | 2, 1 => some (.inl (16, 1))
  | 2, 2 => some (.inr 2)
  | 2, 3 => some (.inr 3)
  | 3, 0 => some (.inl (16, 0))
  | 3, 1 => some (.inl (6, 0))
  | 3, 2 => some (.inl (7, 0))
  | 3, 3 => some (.inl (8, 0))
  | 3, 4 => some (.inl (9, 0))
  | 3, 5 => some (.inl (10, 0))
  | 3, 6 => some (.inl (11, 0))
  | 3, 7 => some (.inl (12, 0))
  | 3, 8 => some (.inl (13, 0))
  | 3, 9 => some (.inl (14, 0))
  | 3, 10 => some (.inl (15, 0))
  | 3, 11 => some (.inr 11)
  | 3, 12 => some (.inr 12)
  | 3, 13 => some (.inr 13)
  | 3, 14 => some (.inr 14)
  | 16, 0 => some (.inl (17, i))
  | 16, 1 => some (.inl (18, i))
  | 16, 2 => some (.inl (19, i))
  | 16, 3 => some (.inl (20, i))
  | 16, 4 => some (.inl (21, i))
  | 16, 5 => some (.inl (22, i))
  | 16, 6 => some (.inl (23, i))
  | 16, 7 => some (.inr 7)
  | 16, 8 => some (.inr 8)
  | _, _ => none
def brc (cond : Nat) (x y : Int) (A B : Prop) : Prop := match cond with
  | 0 => (x = y → A) ∧ (x ≠ y → B)
  | 1 => (x ≠ y → A) ∧ (x = y → B)
  | 2 => (x < y → A) ∧ (y ≤ x → B)
  | 3 => (y ≤ x → A) ∧ (x < y → B)
  | 4 => (y < x → A) ∧ (x ≤ y → B)
  | _ => (x ≤ y → A) ∧ (y < x → B)
def swc (P : Nat → Prop) (x : Int) : Int → List Nat → Prop
  | _, [] => True
  | lo, t :: ts => (x = lo → P t) ∧ swc P x (lo + 1) ts
def swT (w : Nat) : Int × List Nat × Nat := match w with
  | 0 => (0, [56, 64, 72, 88, 97, 106, 116, 126, 136, 146], 154)
  | 1 => (0, [56, 66, 76, 84], 92)
  | _ => (0, [], 0)
abbrev Ctx : Type := Nat → List AV → List AV → Sto → Prop
abbrev Post : Type := Option AV → Sto → Prop
abbrev Gam : Type := Nat → List AV → Sto → Post → Prop
def s_load (P : Ctx) (ls st : List AV) (σ : Sto) (k nx : Nat) : Prop := match ls[k]? with
  | some (.inl x) => P nx ls (.inl x :: st) σ
  | _ => False
def s_loadA (P : Ctx) (ls st : List AV) (σ : Sto) (k nx : Nat) : Prop := match ls[k]? with
  | some (.inr x) => P nx ls (.inr x :: st) σ
  | _ => False
def s_store (P : Ctx) (ls st : List AV) (σ : Sto) (k nx : Nat) : Prop := match st with
  | .inl x :: st' => (match setl ls k (.inl x) with
    | some ls' => P nx ls' st' σ
    | none => False)
  | _ => False
def s_storeA (P : Ctx) (ls st : List AV) (σ : Sto) (k nx : Nat) : Prop := match st with
  | .inr x :: st' => (match setl ls k (.inr x) with
    | some ls' => P nx ls' st' σ
    | none => False)
  | _ => False
def s_iinc (P : Ctx) (ls st : List AV) (σ : Sto) (k : Nat) (n : Int) (nx : Nat) : Prop := match ls[k]? with
  | some (.inl x) => (match setl ls k (.inl (x + n)) with
    | some ls' => P nx ls' st σ
    | none => False)
  | _ => False
def s_add (P : Ctx) (ls st : List AV) (σ : Sto) (nx : Nat) : Prop := match st with
  | .inl y :: .inl x :: st' => P nx ls (.inl (x + y) :: st') σ
  | _ => False
def s_sub (P : Ctx) (ls st : List AV) (σ : Sto) (nx : Nat) : Prop := match st with
  | .inl y :: .inl x :: st' => P nx ls (.inl (x - y) :: st') σ
  | _ => False
def s_mul (P : Ctx) (ls st : List AV) (σ : Sto) (nx : Nat) : Prop := match st with
  | .inl y :: .inl x :: st' => P nx ls (.inl (x * y) :: st') σ
  | _ => False
def s_idiv (P : Ctx) (ls st : List AV) (σ : Sto) (nx : Nat) : Prop := match st with
  | .inl y :: .inl x :: st' => (0 ≤ x ∧ x ≤ 2147483647 ∧ 0 < y ∧ y ≤ 2147483647) ∧ P nx ls (.inl (x / y) :: st') σ
  | _ => False
def s_irem (P : Ctx) (ls st : List AV) (σ : Sto) (nx : Nat) : Prop := match st with
  | .inl y :: .inl x :: st' => (0 ≤ x ∧ x ≤ 2147483647 ∧ 0 < y ∧ y ≤ 2147483647) ∧ P nx ls (.inl (x % y) :: st') σ
  | _ => False
def s_min (P : Ctx) (ls st : List AV) (σ : Sto) (nx : Nat) : Prop := match st with
  | .inl y :: .inl x :: st' => if st'.length ≤ 8 then (inR x ∧ inR y) ∧ P nx ls (.inl (min x y) :: st') σ else False
  | _ => False
def s_max (P : Ctx) (ls st : List AV) (σ : Sto) (nx : Nat) : Prop := match st with
  | .inl y :: .inl x :: st' => if st'.length ≤ 8 then (inR x ∧ inR y) ∧ P nx ls (.inl (max x y) :: st') σ else False
  | _ => False
def s_abs (P : Ctx) (ls st : List AV) (σ : Sto) (nx : Nat) : Prop := match st with
  | .inl x :: st' => if st'.length ≤ 8 then inR x ∧ P nx ls (.inl (max x (-x)) :: st') σ else False
  | _ => False
def s_neg (P : Ctx) (ls st : List AV) (σ : Sto) (nx : Nat) : Prop := match st with
  | .inl x :: st' => P nx ls (.inl (-x) :: st') σ
  | _ => False
def s_i2c (P : Ctx) (ls st : List AV) (σ : Sto) (nx : Nat) : Prop := match st with
  | .inl x :: st' => (0 ≤ x ∧ x ≤ 65535) ∧ P nx ls (.inl x :: st') σ
  | _ => False
def s_dup (P : Ctx) (ls st : List AV) (σ : Sto) (nx : Nat) : Prop := match st with
  | v :: st' => P nx ls (v :: v :: st') σ
  | _ => False
def s_dup2 (P : Ctx) (ls st : List AV) (σ : Sto) (nx : Nat) : Prop := match st with
  | v :: w :: st' => P nx ls (v :: w :: v :: w :: st') σ
  | _ => False
def s_pop (P : Ctx) (ls st : List AV) (σ : Sto) (nx : Nat) : Prop := match st with
  | _ :: st' => P nx ls st' σ
  | _ => False
def s_if (P : Ctx) (ls st : List AV) (σ : Sto) (cond tgt nx : Nat) : Prop := match st with
  | .inl x :: st' => inR x ∧ brc cond x 0 (P tgt ls st' σ) (P nx ls st' σ)
  | _ => False
def s_icmp (P : Ctx) (ls st : List AV) (σ : Sto) (cond tgt nx : Nat) : Prop := match st with
  | .inl y :: .inl x :: st' => (inR x ∧ inR y) ∧ brc cond x y (P tgt ls st' σ) (P nx ls st' σ)
  | _ => False
def s_switch (P : Ctx) (ls st : List AV) (σ : Sto) (lo : Int) (ts : List Nat) (dflt : Nat) : Prop := match st with
  | .inl x :: st' => inR x ∧ ((x < lo ∨ lo + (ts.length : Int) ≤ x) → P dflt ls st' σ) ∧ swc (fun t => P t ls st' σ) x lo ts
  | _ => False
def s_get (P : Ctx) (ls st : List AV) (σ : Sto) (ci f nx : Nat) : Prop := match st with
  | .inr (k, i) :: st' => (match clsK k with
    | some ck => if ck = ci then (match fldK k i f with
      | some (.inl r) => P nx ls (.inr r :: st') σ
      | some (.inr j) => inR (σ k i j) → P nx ls (.inl (σ k i j) :: st') σ
      | none => False) else False
    | none => False)
  | _ => False
def s_put (P : Ctx) (ls st : List AV) (σ : Sto) (ci f lo hi nx : Nat) : Prop := match st with
  | .inl v :: .inr (k, i) :: st' => (match clsK k with
    | some ck => if ck = ci then (match fldK k i f with
      | some (.inr j) => (match lo with
        | 0 => inR v ∧ P nx ls st' (upS σ k i j v)
        | _ => (v = 0 ∨ v = 1) ∧ P nx ls st' (upS σ k i j v))
      | _ => False) else False
    | none => False)
  | _ => False
def s_iald (P : Ctx) (ls st : List AV) (σ : Sto) (nx : Nat) : Prop := match st with
  | .inl j :: .inr (k, i) :: st' => (match lenI k with
    | some n => (0 ≤ j ∧ j < n) ∧ (inR (σ k i j) → P nx ls (.inl (σ k i j) :: st') σ)
    | none => False)
  | _ => False
def s_cald (P : Ctx) (ls st : List AV) (σ : Sto) (nx : Nat) : Prop := match st with
  | .inl j :: .inr (k, i) :: st' => (match lenC k with
    | some n => (0 ≤ j ∧ j < n) ∧ (inR (σ k i j) → P nx ls (.inl (σ k i j) :: st') σ)
    | none => False)
  | _ => False
def s_aald (P : Ctx) (ls st : List AV) (σ : Sto) (nx : Nat) : Prop := match st with
  | .inl j :: .inr (k, _) :: st' => (match lenR k with
    | some n => (0 ≤ j ∧ j < n) ∧ P nx ls (.inr (refA k j) :: st') σ
    | none => False)
  | _ => False
def s_iast (P : Ctx) (ls st : List AV) (σ : Sto) (nx : Nat) : Prop := match st with
  | .inl v :: .inl j :: .inr (k, i) :: st' => (match lenI k with
    | some n => (0 ≤ j ∧ j < n ∧ inR v) ∧ P nx ls st' (upS σ k i j v)
    | none => False)
  | _ => False
def s_cast (P : Ctx) (ls st : List AV) (σ : Sto) (nx : Nat) : Prop := match st with
  | .inl v :: .inl j :: .inr (k, i) :: st' => (match lenC k with
    | some n => (0 ≤ j ∧ j < n ∧ 0 ≤ v ∧ v ≤ 65535) ∧ P nx ls st' (upS σ k i j v)
    | none => False)
  | _ => False
def s_copy (P : Ctx) (ls st : List AV) (σ : Sto) (nx : Nat) : Prop := match st with
  | .inl n :: .inl dp :: .inr (k2, i2) :: .inl sp :: .inr (k1, i1) :: st' => (match lenI k1, lenI k2 with
    | some n1, some n2 => if st'.length ≤ 8 then (0 ≤ sp ∧ 0 ≤ dp ∧ 0 ≤ n ∧ sp + n ≤ n1 ∧ dp + n ≤ n2) ∧ P nx ls st' (cpS σ k1 i1 sp k2 i2 dp n) else False
    | _, _ => False)
  | _ => False
def s_call (Γ : Gam) (P : Ctx) (ls st : List AV) (σ : Sto) (y n nx : Nat) : Prop := match popn n [] st with
  | some (as, st') => if st'.length ≤ 8 then Γ y as σ (fun r σ' => match r with
      | none => P nx ls st' σ'
      | some v => P nx ls (v :: st') σ') else False
  | none => False
/-- a call with a receiver, which is of the class -/
def s_callV (Γ : Gam) (P : Ctx) (ls st : List AV) (σ : Sto) (ci y n nx : Nat) : Prop := match popn n [] st with
  | some (.inr (k, i) :: as, st') => (match clsK k with
    | some ck => if ck = ci then (if st'.length ≤ 8 then Γ y (.inr (k, i) :: as) σ (fun r σ' => match r with
      | none => P nx ls st' σ'
      | some v => P nx ls (v :: st') σ') else False) else False
    | none => False)
  | _ => False
def s_ret (Q : Post) (st : List AV) (σ : Sto) : Prop := match st with
  | [.inl v] => Q (some (.inl v)) σ
  | _ => False
def s_retZ (Q : Post) (st : List AV) (σ : Sto) : Prop := match st with
  | [.inl v] => (v = 0 ∨ v = 1) ∧ Q (some (.inl v)) σ
  | _ => False
def s_retA (Q : Post) (st : List AV) (σ : Sto) : Prop := match st with
  | [.inr v] => Q (some (.inr v)) σ
  | _ => False
def s_retV (Q : Post) (st : List AV) (σ : Sto) : Prop := match st with
  | [] => Q none σ
  | _ => False
def s_scr (P : Ctx) (ls st : List AV) (σ : Sto) (nx : Nat) : Prop := match st with
  | .inl j :: .inr (41, _) :: st' => (0 ≤ j ∧ j < σ 41 0 (-1)) ∧ (inR (σ 41 0 j) → P nx ls (.inl (σ 41 0 j) :: st') σ)
  | _ => False
def s_scrLen (P : Ctx) (ls st : List AV) (σ : Sto) (nx : Nat) : Prop := match st with
  | .inr (41, _) :: st' => P nx ls (.inl (σ 41 0 (-1)) :: st') σ
  | _ => False
def s_and (P : Ctx) (ls st : List AV) (σ : Sto) (nx : Nat) : Prop := match st with
  | .inl y :: .inl x :: st' => y = 2147483647 ∧ P nx ls (.inl (x % 2147483648) :: st') σ
  | _ => False
def s_shr (P : Ctx) (ls st : List AV) (σ : Sto) (nx : Nat) : Prop := match st with
  | .inl y :: .inl x :: st' => (y = 6 ∧ 0 ≤ x ∧ x ≤ 2147483647) ∧ P nx ls (.inl (x / 64) :: st') σ
  | _ => False
/-- one step -/
def stp (Γ : Gam) (Q : Post) (P : Ctx) (ls st : List AV) (σ : Sto) (ins : AMI) : Prop := match ins with
  | (0, v, _, _, _, nx) => P nx ls (.inl v :: st) σ
  | (1, _, k, _, _, nx) => s_load P ls st σ k nx
  | (2, _, k, _, _, nx) => s_loadA P ls st σ k nx
  | (3, _, k, _, _, nx) => s_store P ls st σ k nx
  | (4, _, k, _, _, nx) => s_storeA P ls st σ k nx
  | (5, _, _, _, _, nx) => s_add P ls st σ nx
  | (6, _, _, _, _, nx) => s_sub P ls st σ nx
  | (7, _, _, _, _, nx) => s_mul P ls st σ nx
  | (8, _, _, _, _, nx) => s_idiv P ls st σ nx
  | (9, _, _, _, _, nx) => s_irem P ls st σ nx
  | (10, _, _, _, _, nx) => s_neg P ls st σ nx
  | (11, n, k, _, _, nx) => s_iinc P ls st σ k n nx
  | (12, _, _, _, _, nx) => s_dup P ls st σ nx
  | (13, _, _, _, _, nx) => s_dup2 P ls st σ nx
  | (14, _, _, _, _, nx) => s_pop P ls st σ nx
  | (15, _, cond, tgt, _, nx) => s_if P ls st σ cond tgt nx
  | (16, _, cond, tgt, _, nx) => s_icmp P ls st σ cond tgt nx
  | (17, _, _, _, _, nx) => P nx ls st σ
  | (18, _, w, _, _, _) => s_switch P ls st σ (swT w).1 (swT w).2.1 (swT w).2.2
  | (20, _, _, _, _, nx) => s_iald P ls st σ nx
  | (21, _, _, _, _, nx) => s_cald P ls st σ nx
  | (22, _, _, _, _, nx) => s_aald P ls st σ nx
  | (23, _, _, _, _, nx) => s_iast P ls st σ nx
  | (24, _, _, _, _, nx) => s_cast P ls st σ nx
  | (25, _, ci, f, _, nx) => s_get P ls st σ ci f nx
  | (26, _, ci, f, _, nx) => s_put P ls st σ ci f 0 0 nx
  | (27, _, ci, f, _, nx) => s_put P ls st σ ci f 1 0 nx
  | (28, _, _, _, _, nx) => s_i2c P ls st σ nx
  | (29, _, _, _, _, nx) => s_copy P ls st σ nx
  | (30, _, y, n, _, nx) => s_call Γ P ls st σ y n nx
  | (31, _, y, n, ci, nx) => s_callV Γ P ls st σ ci y n nx
  | (32, _, y, n, _, nx) => s_call Γ P ls st σ y n nx
  | (33, _, _, _, _, nx) => s_min P ls st σ nx
  | (34, _, _, _, _, nx) => s_max P ls st σ nx
  | (35, _, _, _, _, nx) => s_abs P ls st σ nx
  | (40, _, _, _, _, _) => s_ret Q st σ
  | (41, _, _, _, _, _) => s_retZ Q st σ
  | (42, _, _, _, _, _) => s_retA Q st σ
  | (43, _, _, _, _, _) => s_retV Q st σ
  | (46, _, _, _, _, nx) => s_shr P ls st σ nx
  | (47, _, _, _, _, nx) => s_and P ls st σ nx
  | (48, _, _, _, _, nx) => s_scrLen P ls st σ nx
  | (50, _, _, _, _, nx) => s_scr P ls st σ nx
  | _ => False
end
section
/-! THE TWIN BESIDE THE MACHINE: what the store is in the heap; one step of the twin is one step of the machine -/
def conc (ad : Nat → Int → Nat) : AV → Value
  | .inl x => .int (Int32.ofInt x)
  | .inr (k, i) => .ref (ad k i)
def okv : AV → Prop
  | .inl _ => True
  | .inr (k, i) => 0 ≤ i ∧ i < cntK k
def nfK (k : Nat) : Nat := match k with
  | 0 => 4
  | 1 => 3
  | 2 => 4
  | 3 => 15
  | 16 => 9
  | _ => 17
def fldV (ad : Nat → Int → Nat) (g : Int → Int) (k : Nat) (i : Int) (f : Nat) : Value := match fldK k i f with
  | some (.inl r) => .ref (ad r.1 r.2)
  | _ => .int (Int32.ofInt (g f))
def rowV (g : Int → Int) : Nat → Int32 := fun j => Int32.ofInt (g j)
def cellE (ad : Nat → Int → Nat) (cy : Nat → ClassId) (σ : Sto) (k : Nat) (i : Int) : va_E := match clsK k with
  | some q => .inr (q, (List.range (nfK k)).map (fldV ad (σ k i) k i))
  | none => (match lenI k with
    | some n => .inl (cy 0, n.toNat, .inl (rowV (σ k i)))
    | none => (match lenC k with
      | some n => .inl (cy 1, n.toNat, .inl (rowV (σ k i)))
      | none => (match lenR k with
        | some n => .inl (cy (if k = 4 then 2 else 3), n.toNat, .inr (.inr (.inr (.inr (fun j => some (ad (refA k j).1 (refA k j).2))))))
        | none => .inr (0, []))))
def idsK : List (Nat × Int) := (List.range 36).flatMap fun k => (List.range (cntK k).toNat).map fun (i : Nat) => (k, (i : Int))
def cellsW (ad : Nat → Int → Nat) (cy : Nat → ClassId) (σ : Sto) : va_W := idsK.map fun q => (ad q.1 q.2, cellE ad cy σ q.1 q.2)
theorem ids_nodup : idsK.Nodup := by decide +kernel
theorem ids_mem {k : Nat} {i : Int} (hk : k < 36) (h0 : 0 ≤ i) (h1 : i < cntK k) : (k, i) ∈ idsK := by
  refine List.mem_flatMap.mpr ⟨k, List.mem_range.mpr hk, List.mem_map.mpr ⟨i.toNat, List.mem_range.mpr (by omega), ?_⟩⟩
  rw [Int.toNat_of_nonneg h0]
theorem ids_of {k : Nat} {i : Int} (h : (k, i) ∈ idsK) : k < 36 ∧ 0 ≤ i ∧ i < cntK k := by
  obtain ⟨a, ha, hb⟩ := List.mem_flatMap.mp h
  obtain ⟨b, hb1, hb2⟩ := List.mem_map.mp hb
  cases hb2
  have := List.mem_range.mp ha
  have := List.mem_range.mp hb1
  omega
theorem ids_at {k : Nat} {i : Int} (hk : k < 36) (h0 : 0 ≤ i) (h1 : i < cntK k) : ∃ q0 : Nat, idsK[q0]? = some (k, i) := List.getElem?_of_mem (ids_mem hk h0 h1)
theorem cells_get {ad : Nat → Int → Nat} {cy : Nat → ClassId} {q0 : Nat} {k : Nat} {i : Int} (h : idsK[q0]? = some (k, i)) (σ : Sto) : (cellsW ad cy σ)[q0]? = some (ad k i, cellE ad cy σ k i) := by
  unfold cellsW
  rw [List.getElem?_map, h]
  rfl
theorem cellE_congr {ad : Nat → Int → Nat} {cy : Nat → ClassId} {σ σ' : Sto} {k : Nat} {i : Int} (h : σ' k i = σ k i) : cellE ad cy σ' k i = cellE ad cy σ k i := by
  unfold cellE
  rw [h]
theorem cells_set {ad : Nat → Int → Nat} {cy : Nat → ClassId} {q0 : Nat} {k : Nat} {i : Int} (h : idsK[q0]? = some (k, i)) {σ σ' : Sto} (ho : ∀ (k' : Nat) (i' : Int), (k', i') ≠ (k, i) → σ' k' i' = σ k' i') : (cellsW ad cy σ).set q0 (ad k i, cellE ad cy σ' k i) = cellsW ad cy σ' := by
  have hl : q0 < idsK.length := (List.getElem?_eq_some_iff.mp h).1
  apply List.ext_getElem?
  intro n
  by_cases hn : n = q0
  · subst hn
    rw [List.getElem?_set_self (by unfold cellsW; rw [List.length_map]; exact hl), cells_get h]
  · rw [List.getElem?_set_ne (Ne.symm hn)]
    unfold cellsW
    rw [List.getElem?_map, List.getElem?_map]
    cases hq : idsK[n]? with
    | none => rfl
    | some q =>
      obtain ⟨k', i'⟩ := q
      have hne : (k', i') ≠ (k, i) := by
        intro e
        have hl' : n < idsK.length := (List.getElem?_eq_some_iff.mp hq).1
        exact hn ((List.getElem?_inj hl' ids_nodup).mp (by rw [hq, h, e]))
      show some (ad k' i', cellE ad cy σ k' i') = some (ad k' i', cellE ad cy σ' k' i')
      rw [cellE_congr (ho k' i' hne)]
theorem upS_row {σ : Sto} {k : Nat} {i j v : Int} : upS σ k i j v k i = fun j' => if j' = j then v else σ k i j' := by
  funext j'
  simp [upS]
theorem upS_off {σ : Sto} {k : Nat} {i j v : Int} {k' : Nat} {i' : Int} (h : (k', i') ≠ (k, i)) : upS σ k i j v k' i' = σ k' i' := by
  funext j'
  unfold upS
  rw [if_neg]
  intro e
  exact h (by rw [e.1, e.2.1])
theorem upS_in {σ : Sto} (hσ : ∀ k i j, inR (σ k i j)) {k : Nat} {i j v : Int} (hv : inR v) : ∀ k' i' j', inR (upS σ k i j v k' i' j') := by
  intro k' i' j'
  unfold upS
  split
  · exact hv
  · exact hσ _ _ _
theorem cpS_in {σ : Sto} (hσ : ∀ k i j, inR (σ k i j)) {k1 k2 : Nat} {i1 i2 sp dp n : Int} : ∀ k' i' j', inR (cpS σ k1 i1 sp k2 i2 dp n k' i' j') := by
  intro k' i' j'
  unfold cpS
  split
  · exact hσ _ _ _
  · exact hσ _ _ _
theorem cpS_off {σ : Sto} {k1 k2 : Nat} {i1 i2 sp dp n : Int} {k' : Nat} {i' : Int} (h : (k', i') ≠ (k2, i2)) : cpS σ k1 i1 sp k2 i2 dp n k' i' = σ k' i' := by
  funext j'
  unfold cpS
  rw [if_neg]
  intro e
  exact h (by rw [e.1, e.2.1])
/-! ints -/
theorem oi_toInt {x : Int} (h : inR x) : (Int32.ofInt x).toInt = x := Int32.toInt_ofInt_of_le (by omega) (by omega)
theorem oi_eq {x y : Int} (hx : inR x) (hy : inR y) : Int32.ofInt x = Int32.ofInt y ↔ x = y := by
  rw [← Int32.toInt_inj, oi_toInt hx, oi_toInt hy]
theorem oi_lt {x y : Int} (hx : inR x) (hy : inR y) : Int32.ofInt x < Int32.ofInt y ↔ x < y := by
  rw [Int32.lt_iff_toInt_lt, oi_toInt hx, oi_toInt hy]
theorem oi_le {x y : Int} (hx : inR x) (hy : inR y) : Int32.ofInt x ≤ Int32.ofInt y ↔ x ≤ y := by
  rw [Int32.le_iff_toInt_le, oi_toInt hx, oi_toInt hy]
theorem oi_nat {j : Int} (h0 : 0 ≤ j) : Int32.ofInt j = nI j.toNat := by
  show Int32.ofInt j = Int32.ofNat j.toNat
  rw [← Int32.ofInt_eq_ofNat, Int.toNat_of_nonneg h0]
theorem oi_cl {j : Int} (h0 : 0 ≤ j) (h1 : j ≤ 2147483647) : (Int32.ofInt j).toNatClampNeg = j.toNat := by
  rw [oi_nat h0, nI_clamp (by omega)]
theorem oi_in {j n : Int} (h0 : 0 ≤ j) (h1 : j < n) (hn : n ≤ 2147483647) : vp_in (Int32.ofInt j) n.toNat := by
  rw [oi_nat h0]
  exact vp_in_nI (by omega) (by omega)
theorem oi_0 : Int32.ofInt 0 = 0 := rfl
theorem oi_div {x y : Int} (hx : 0 ≤ x) (hx1 : x ≤ 2147483647) (hy : 0 < y) (hy1 : y ≤ 2147483647) : Int32.ofInt x / Int32.ofInt y = Int32.ofInt (x / y) := by
  rw [oi_nat hx, oi_nat (Int.le_of_lt hy), pk_div (by omega) (by omega) (by omega), oi_nat (Int.ediv_nonneg hx (Int.le_of_lt hy))]
  obtain ⟨a, rfl⟩ := Int.eq_ofNat_of_zero_le hx
  obtain ⟨b, rfl⟩ := Int.eq_ofNat_of_zero_le (Int.le_of_lt hy)
  rw [← Int.natCast_ediv]
  rfl
theorem oi_rem {x y : Int} (hx : 0 ≤ x) (hx1 : x ≤ 2147483647) (hy : 0 < y) (hy1 : y ≤ 2147483647) : Int32.ofInt x - Int32.ofInt x / Int32.ofInt y * Int32.ofInt y = Int32.ofInt (x % y) := by
  rw [oi_nat hx, oi_nat (Int.le_of_lt hy), pk_rem (by omega) (by omega) (by omega), oi_nat (Int.emod_nonneg _ (by omega))]
  obtain ⟨a, rfl⟩ := Int.eq_ofNat_of_zero_le hx
  obtain ⟨b, rfl⟩ := Int.eq_ofNat_of_zero_le (Int.le_of_lt hy)
  rw [← Int.natCast_emod]
  rfl
/-! locals -/
def lmp (ad : Nat → Int → Nat) (ls : List AV) : List (Nat × Value) := ls.zipIdx.map fun q => (q.2, conc ad q.1)
theorem lmp_mem {ad : Nat → Int → Nat} {ls : List AV} {k : Nat} {v : AV} (h : ls[k]? = some v) : (k, conc ad v) ∈ lmp ad ls :=
  List.mem_map.mpr ⟨(v, k), List.mem_zipIdx_iff_getElem?.mpr (by simpa using h), rfl⟩
theorem lmp_of {ad : Nat → Int → Nat} {ls : List AV} {q : Nat × Value} (h : q ∈ lmp ad ls) : ∃ v, ls[q.1]? = some v ∧ q.2 = conc ad v := by
  obtain ⟨⟨v, k⟩, h1, rfl⟩ := List.mem_map.mp h
  exact ⟨v, by simpa using List.mem_zipIdx_iff_getElem?.mp h1, rfl⟩
theorem lmp_at {ad : Nat → Int → Nat} {ls : List AV} {lsl : Array Slot} {nL k : Nat} {v : AV} (hl : lv_has lsl nL (lmp ad ls)) (h : ls[k]? = some v) : lsl[k]? = some (.val (conc ad v)) := hl.2.2 _ (lmp_mem h)
theorem setl_get : ∀ {ls : List AV} {k : Nat} {v : AV} {ls' : List AV}, setl ls k v = some ls' → ls'[k]? = some v ∧ ∀ j, j ≠ k → ∀ w, ls'[j]? = some w → ls[j]? = some w
  | [], 0, v, ls', h => by
    simp only [setl, Option.some.injEq] at h
    subst h
    refine ⟨rfl, fun j hj w hw => ?_⟩
    cases j with
    | zero => exact absurd rfl hj
    | succ j => simp at hw
  | [], _ + 1, _, _, h => by simp [setl] at h
  | a :: l, 0, v, ls', h => by
    simp only [setl, Option.some.injEq] at h
    subst h
    refine ⟨rfl, fun j hj w hw => ?_⟩
    cases j with
    | zero => exact absurd rfl hj
    | succ j => simpa using hw
  | a :: l, k + 1, v, ls', h => by
    simp only [setl] at h
    split at h
    · rename_i l' hl'
      simp only [Option.some.injEq] at h
      subst h
      obtain ⟨h1, h2⟩ := setl_get hl'
      refine ⟨by simpa using h1, fun j hj w hw => ?_⟩
      cases j with
      | zero => simpa using hw
      | succ j => simpa using h2 j (by omega) w (by simpa using hw)
    · cases h
theorem setl_ok {ls ls' : List AV} {k : Nat} {v : AV} (h : setl ls k v = some ls') (hls : ∀ w ∈ ls, okv w) (hv : okv v) : ∀ w ∈ ls', okv w := by
  intro w hw
  obtain ⟨j, hj⟩ := List.getElem?_of_mem hw
  obtain ⟨h1, h2⟩ := setl_get h
  by_cases e : j = k
  · subst e
    rw [h1] at hj
    cases hj
    exact hv
  · exact hls w (List.mem_of_getElem? (h2 j e w hj))
theorem lmp_set {ad : Nat → Int → Nat} {ls ls' : List AV} {lsl : Array Slot} {nL k : Nat} {v : AV} (h : setl ls k v = some ls') (hl : lv_has lsl nL ((k, conc ad v) :: (lmp ad ls).filter (fun q => !(q.1 == k) && !(q.1 + 1 == k && q.2.category == 2)))) : lv_has lsl nL (lmp ad ls') := by
  refine ⟨hl.1, hl.2.1, fun q hq => ?_⟩
  obtain ⟨w, h1, h2⟩ := lmp_of hq
  obtain ⟨g1, g2⟩ := setl_get h
  by_cases e : q.1 = k
  · rw [e, g1] at h1
    cases h1
    refine hl.2.2 q (List.mem_cons.mpr (Or.inl ?_))
    rw [← h2, ← e]
  · refine hl.2.2 q (List.mem_cons_of_mem _ (List.mem_filter.mpr ⟨?_, ?_⟩))
    · have := lmp_mem (ad := ad) (g2 _ e w h1)
      rw [← h2] at this
      exact this
    · have hc : (q.2.category == 2) = false := by
        rw [h2]
        cases w <;> rfl
      simp [e, hc]
section AMS
variable {p : Program} {l : Launch} {e : Env} {R : Room} {s : State} {m : MethodId} {args : Array Value} {below : List Frame} {meth : Method} {c : Code} {cells slots : Nat} {Qw : State → Prop} {ad : Nat → Int → Nat} {cy : Nat → ClassId} {D : va_G} {A0 : Nat → Prop} {H0 : Heap} {nL : Nat} {cc : ByteArray} {pc : Nat} {ls st : List AV} {σ σz : Sto} {own : String}
def tysW (cy : Nat → ClassId) : List (ClassId × FieldType) := [(cy 0, .int), (cy 1, .char), (cy 2, .object RX0), (cy 3, .array .int)]
def okS (σz σ : Sto) : Prop := (∀ k i j, inR (σ k i j)) ∧ ∀ (k : Nat) (i : Int), 36 ≤ k → σ k i = σz k i
def AMW (p : Program) (l : Launch) (e : Env) (R : Room) (s : State) (m : MethodId) (args : Array Value) (below : List Frame) (meth : Method) (c : Code) (cells slots : Nat) (Qw : State → Prop) (ad : Nat → Int → Nat) (cy : Nat → ClassId) (D : va_G) (A0 : Nat → Prop) (H0 : Heap) (nL : Nat) (σz : Sto) : Ctx := fun pc ls st σ =>
  ∀ (H : Heap) (locs : List Loc) (lsl : Array Slot), va_P D vwCl (cellsW ad cy σ) H → va_S A0 H0 H locs → lv_has lsl nL (lmp ad ls) → (∀ v ∈ ls, okv v) → (∀ v ∈ st, okv v) → okS σz σ →
    W p l e R s m args below meth c H locs cells slots Qw (F0 m pc lsl (st.map (conc ad)))
theorem ok_cons {v : AV} {st : List AV} (hv : okv v) (hst : ∀ w ∈ st, okv w) : ∀ w ∈ v :: st, okv w := fun w h => by
  rcases List.mem_cons.mp h with rfl | h
  · exact hv
  · exact hst w h
theorem ok_tail {v : AV} {st : List AV} (hst : ∀ w ∈ v :: st, okv w) : ∀ w ∈ st, okv w := fun w h => hst w (List.mem_cons_of_mem _ h)
theorem ok_head {v : AV} {st : List AV} (hst : ∀ w ∈ v :: st, okv w) : okv v := hst v List.mem_cons_self
theorem w_const {v : Int} {nx : Nat} (hx : p.tables.exec = Jvm.exec) (hb : c.code = cc) (hd : (decode cc pc = .ok (.iconst v, 1) ∧ nx = pc + 1) ∨ (decode cc pc = .ok (.bipush v, 2) ∧ (Int8.ofInt v).toInt32 = Int32.ofInt v ∧ nx = pc + 2) ∨ (decode cc pc = .ok (.sipush v, 3) ∧ (Int16.ofInt v).toInt32 = Int32.ofInt v ∧ nx = pc + 3) ∨ (∃ idx, decode cc pc = .ok (.ldc idx, 2) ∧ s.vm.findClass own = some m.cls ∧ (Jvm.Cond.constant own idx (Int32.ofInt v)).before args s = true ∧ nx = pc + 2)) (h : (AMW p l e R s m args below meth c cells slots Qw ad cy D A0 H0 nL σz) nx ls (.inl v :: st) σ) : (AMW p l e R s m args below meth c cells slots Qw ad cy D A0 H0 nL σz) pc ls st σ := by
  intro H locs lsl hP hS hl hls hst hσ
  have k := h H locs lsl hP hS hl hls (ok_cons trivial hst) hσ
  rcases hd with ⟨hd, rfl⟩ | ⟨hd, hv, rfl⟩ | ⟨hd, hv, rfl⟩ | ⟨idx, hd, ho, hcn, rfl⟩
  · exact lv_iconst hx hb hd rfl k
  · exact lv_bipush hx hb hd hv k
  · exact lv_sipush hx hb hd hv k
  · exact lv_ldc hx hb ho hcn hd k
theorem w_load {k nx : Nat} (hx : p.tables.exec = Jvm.exec) (hb : c.code = cc) (hd : (decode cc pc = .ok (.iload k, 2) ∧ nx = pc + 2) ∨ ∃ k' : Fin 4, decode cc pc = .ok (.iload_n k', 1) ∧ (k' : Nat) = k ∧ nx = pc + 1) (h : s_load (AMW p l e R s m args below meth c cells slots Qw ad cy D A0 H0 nL σz) ls st σ k nx) : (AMW p l e R s m args below meth c cells slots Qw ad cy D A0 H0 nL σz) pc ls st σ := by
  intro H locs lsl hP hS hl hls hst hσ
  unfold s_load at h
  split at h
  · rename_i x hx1
    have h1 := lmp_at hl hx1
    have k := h H locs lsl hP hS hl hls (ok_cons trivial hst) hσ
    rcases hd with ⟨hd, rfl⟩ | ⟨k', hd, hk, rfl⟩
    · exact lv_iload hx hb hd h1 k
    · exact lv_iload_n hx hb hd hk h1 k
  · exact h.elim
theorem w_loadA {k nx : Nat} (hx : p.tables.exec = Jvm.exec) (hb : c.code = cc) (hd : (decode cc pc = .ok (.aload k, 2) ∧ nx = pc + 2) ∨ ∃ k' : Fin 4, decode cc pc = .ok (.aload_n k', 1) ∧ (k' : Nat) = k ∧ nx = pc + 1) (h : s_loadA (AMW p l e R s m args below meth c cells slots Qw ad cy D A0 H0 nL σz) ls st σ k nx) : (AMW p l e R s m args below meth c cells slots Qw ad cy D A0 H0 nL σz) pc ls st σ := by
  intro H locs lsl hP hS hl hls hst hσ
  unfold s_loadA at h
  split at h
  · rename_i x hx1
    have h1 := lmp_at hl hx1
    have k := h H locs lsl hP hS hl hls (ok_cons (hls _ (List.mem_of_getElem? hx1)) hst) hσ
    obtain ⟨x1, x2⟩ := x
    rcases hd with ⟨hd, rfl⟩ | ⟨k', hd, hk, rfl⟩
    · exact lv_aload hx hb hd h1 k
    · exact lv_aload_n hx hb hd hk h1 k
  · exact h.elim
theorem w_store {k nx : Nat} (hx : p.tables.exec = Jvm.exec) (hb : c.code = cc) (hk : k < nL) (hd : (decode cc pc = .ok (.istore k, 2) ∧ nx = pc + 2) ∨ ∃ k' : Fin 4, decode cc pc = .ok (.istore_n k', 1) ∧ (k' : Nat) = k ∧ nx = pc + 1) (h : s_store (AMW p l e R s m args below meth c cells slots Qw ad cy D A0 H0 nL σz) ls st σ k nx) : (AMW p l e R s m args below meth c cells slots Qw ad cy D A0 H0 nL σz) pc ls st σ := by
  intro H locs lsl hP hS hl hls hst hσ
  unfold s_store at h
  split at h
  · rename_i x st'
    split at h
    · rename_i ls' hs
      have kk := fun (lsl' : Array Slot) hl' => h H locs lsl' hP hS (lmp_set hs hl') (setl_ok hs hls trivial) (ok_tail hst) hσ
      rcases hd with ⟨hd, rfl⟩ | ⟨k', hd, hk', rfl⟩
      · exact lv_istore hx hb hd hl hk rfl kk
      · exact lv_istore_n hx hb hd hk' hl hk rfl kk
    · exact h.elim
  · exact h.elim
theorem w_storeA {k nx : Nat} (hx : p.tables.exec = Jvm.exec) (hb : c.code = cc) (hk : k < nL) (hd : (decode cc pc = .ok (.astore k, 2) ∧ nx = pc + 2) ∨ ∃ k' : Fin 4, decode cc pc = .ok (.astore_n k', 1) ∧ (k' : Nat) = k ∧ nx = pc + 1) (h : s_storeA (AMW p l e R s m args below meth c cells slots Qw ad cy D A0 H0 nL σz) ls st σ k nx) : (AMW p l e R s m args below meth c cells slots Qw ad cy D A0 H0 nL σz) pc ls st σ := by
  intro H locs lsl hP hS hl hls hst hσ
  unfold s_storeA at h
  split at h
  · rename_i x st'
    split at h
    · rename_i ls' hs
      obtain ⟨x1, x2⟩ := x
      have kk := fun (lsl' : Array Slot) hl' => h H locs lsl' hP hS (lmp_set hs hl') (setl_ok hs hls (ok_head hst)) (ok_tail hst) hσ
      rcases hd with ⟨hd, rfl⟩ | ⟨k', hd, hk', rfl⟩
      · exact lv_astore hx hb hd hl hk rfl kk
      · exact lv_astore_n hx hb hd hk' hl hk rfl kk
    · exact h.elim
  · exact h.elim
theorem w_iinc {k nx : Nat} {n : Int} (hx : p.tables.exec = Jvm.exec) (hb : c.code = cc) (hk : k < nL) (hd : decode cc pc = .ok (.iinc k n, 3) ∧ nx = pc + 3) (h : s_iinc (AMW p l e R s m args below meth c cells slots Qw ad cy D A0 H0 nL σz) ls st σ k n nx) : (AMW p l e R s m args below meth c cells slots Qw ad cy D A0 H0 nL σz) pc ls st σ := by
  intro H locs lsl hP hS hl hls hst hσ
  unfold s_iinc at h
  split at h
  · rename_i x hx1
    split at h
    · rename_i ls' hs
      obtain ⟨hd, rfl⟩ := hd
      obtain ⟨q, hq⟩ := List.getElem?_of_mem (lmp_mem (ad := ad) hx1)
      exact lv_iinc hx hb hd hl hq (by rw [← Int32.ofInt_add]) hk rfl (fun lsl' hl' => h H locs lsl' hP hS (lmp_set hs hl') (setl_ok hs hls trivial) hst hσ)
    · exact h.elim
  · exact h.elim
theorem w_add {nx : Nat} (hx : p.tables.exec = Jvm.exec) (hb : c.code = cc) (hd : decode cc pc = .ok (.iadd, 1) ∧ nx = pc + 1) (h : s_add (AMW p l e R s m args below meth c cells slots Qw ad cy D A0 H0 nL σz) ls st σ nx) : (AMW p l e R s m args below meth c cells slots Qw ad cy D A0 H0 nL σz) pc ls st σ := by
  intro H locs lsl hP hS hl hls hst hσ
  unfold s_add at h
  split at h
  · obtain ⟨hd, rfl⟩ := hd
    have k := h H locs lsl hP hS hl hls (ok_cons trivial (ok_tail (ok_tail hst))) hσ
    simp only [List.map_cons, conc, Int32.ofInt_add] at k
    exact lv_iadd hx hb hd k
  · exact h.elim
theorem w_sub {nx : Nat} (hx : p.tables.exec = Jvm.exec) (hb : c.code = cc) (hd : decode cc pc = .ok (.isub, 1) ∧ nx = pc + 1) (h : s_sub (AMW p l e R s m args below meth c cells slots Qw ad cy D A0 H0 nL σz) ls st σ nx) : (AMW p l e R s m args below meth c cells slots Qw ad cy D A0 H0 nL σz) pc ls st σ := by
  intro H locs lsl hP hS hl hls hst hσ
  unfold s_sub at h
  split at h
  · obtain ⟨hd, rfl⟩ := hd
    have k := h H locs lsl hP hS hl hls (ok_cons trivial (ok_tail (ok_tail hst))) hσ
    simp only [List.map_cons, conc, Int32.ofInt_sub] at k
    exact lv_isub hx hb hd k
  · exact h.elim
theorem w_mul {nx : Nat} (hx : p.tables.exec = Jvm.exec) (hb : c.code = cc) (hd : decode cc pc = .ok (.imul, 1) ∧ nx = pc + 1) (h : s_mul (AMW p l e R s m args below meth c cells slots Qw ad cy D A0 H0 nL σz) ls st σ nx) : (AMW p l e R s m args below meth c cells slots Qw ad cy D A0 H0 nL σz) pc ls st σ := by
  intro H locs lsl hP hS hl hls hst hσ
  unfold s_mul at h
  split at h
  · obtain ⟨hd, rfl⟩ := hd
    have k := h H locs lsl hP hS hl hls (ok_cons trivial (ok_tail (ok_tail hst))) hσ
    simp only [List.map_cons, conc, Int32.ofInt_mul] at k
    exact lv_imul hx hb hd k
  · exact h.elim
theorem w_neg {nx : Nat} (hx : p.tables.exec = Jvm.exec) (hb : c.code = cc) (hd : decode cc pc = .ok (.ineg, 1) ∧ nx = pc + 1) (h : s_neg (AMW p l e R s m args below meth c cells slots Qw ad cy D A0 H0 nL σz) ls st σ nx) : (AMW p l e R s m args below meth c cells slots Qw ad cy D A0 H0 nL σz) pc ls st σ := by
  intro H locs lsl hP hS hl hls hst hσ
  unfold s_neg at h
  split at h
  · obtain ⟨hd, rfl⟩ := hd
    have k := h H locs lsl hP hS hl hls (ok_cons trivial (ok_tail hst)) hσ
    simp only [List.map_cons, conc, Int32.ofInt_neg] at k
    exact lv_ineg hx hb hd k
  · exact h.elim
theorem w_div {nx : Nat} (hx : p.tables.exec = Jvm.exec) (hb : c.code = cc) (hd : decode cc pc = .ok (.idiv, 1) ∧ nx = pc + 1) (h : s_idiv (AMW p l e R s m args below meth c cells slots Qw ad cy D A0 H0 nL σz) ls st σ nx) : (AMW p l e R s m args below meth c cells slots Qw ad cy D A0 H0 nL σz) pc ls st σ := by
  intro H locs lsl hP hS hl hls hst hσ
  unfold s_idiv at h
  split at h
  · rename_i y x st'
    obtain ⟨hd, rfl⟩ := hd
    obtain ⟨⟨h1, h2, h3, h4⟩, h⟩ := h
    have k := h H locs lsl hP hS hl hls (ok_cons trivial (ok_tail (ok_tail hst))) hσ
    simp only [List.map_cons, conc, ← oi_div h1 h2 h3 h4] at k
    refine lv_idiv hx hb hd ?_ k
    rw [← oi_0, oi_eq (by omega) (by omega)]
    omega
  · exact h.elim
theorem w_rem {nx : Nat} (hx : p.tables.exec = Jvm.exec) (hb : c.code = cc) (hd : decode cc pc = .ok (.irem, 1) ∧ nx = pc + 1) (h : s_irem (AMW p l e R s m args below meth c cells slots Qw ad cy D A0 H0 nL σz) ls st σ nx) : (AMW p l e R s m args below meth c cells slots Qw ad cy D A0 H0 nL σz) pc ls st σ := by
  intro H locs lsl hP hS hl hls hst hσ
  unfold s_irem at h
  split at h
  · rename_i y x st'
    obtain ⟨hd, rfl⟩ := hd
    obtain ⟨⟨h1, h2, h3, h4⟩, h⟩ := h
    have k := h H locs lsl hP hS hl hls (ok_cons trivial (ok_tail (ok_tail hst))) hσ
    simp only [List.map_cons, conc, ← oi_rem h1 h2 h3 h4] at k
    refine lv_irem hx hb hd ?_ k
    rw [← oi_0, oi_eq (by omega) (by omega)]
    omega
  · exact h.elim
theorem cat1 (v : AV) : (conc ad v).category = 1 := by
  rcases v with x | ⟨k, i⟩ <;> rfl
theorem w_dup {nx : Nat} (hx : p.tables.exec = Jvm.exec) (hb : c.code = cc) (hd : decode cc pc = .ok (.dup, 1) ∧ nx = pc + 1) (h : s_dup (AMW p l e R s m args below meth c cells slots Qw ad cy D A0 H0 nL σz) ls st σ nx) : (AMW p l e R s m args below meth c cells slots Qw ad cy D A0 H0 nL σz) pc ls st σ := by
  intro H locs lsl hP hS hl hls hst hσ
  unfold s_dup at h
  split at h
  · obtain ⟨hd, rfl⟩ := hd
    exact lv_dup hx hb hd (cat1 _) (h H locs lsl hP hS hl hls (ok_cons (ok_head hst) hst) hσ)
  · exact h.elim
theorem w_dup2 {nx : Nat} (hx : p.tables.exec = Jvm.exec) (hb : c.code = cc) (hd : decode cc pc = .ok (.dup2, 1) ∧ nx = pc + 1) (h : s_dup2 (AMW p l e R s m args below meth c cells slots Qw ad cy D A0 H0 nL σz) ls st σ nx) : (AMW p l e R s m args below meth c cells slots Qw ad cy D A0 H0 nL σz) pc ls st σ := by
  intro H locs lsl hP hS hl hls hst hσ
  unfold s_dup2 at h
  split at h
  · obtain ⟨hd, rfl⟩ := hd
    exact lv_dup2_11 hx hb hd (cat1 _) (cat1 _) (h H locs lsl hP hS hl hls (ok_cons (ok_head hst) (ok_cons (ok_head (ok_tail hst)) hst)) hσ)
  · exact h.elim
theorem w_pop {nx : Nat} (hx : p.tables.exec = Jvm.exec) (hb : c.code = cc) (hd : decode cc pc = .ok (.pop, 1) ∧ nx = pc + 1) (h : s_pop (AMW p l e R s m args below meth c cells slots Qw ad cy D A0 H0 nL σz) ls st σ nx) : (AMW p l e R s m args below meth c cells slots Qw ad cy D A0 H0 nL σz) pc ls st σ := by
  intro H locs lsl hP hS hl hls hst hσ
  unfold s_pop at h
  split at h
  · obtain ⟨hd, rfl⟩ := hd
    exact lv_pop hx hb hd (cat1 _) (h H locs lsl hP hS hl hls (ok_tail hst) hσ)
  · exact h.elim
theorem w_goto {tgt : Nat} {off : Int} (hx : p.tables.exec = Jvm.exec) (hb : c.code = cc) (hd : decode cc pc = .ok (.goto off, 3)) (ht : (pc : Int) + off = (tgt : Int)) (h : (AMW p l e R s m args below meth c cells slots Qw ad cy D A0 H0 nL σz) tgt ls st σ) : (AMW p l e R s m args below meth c cells slots Qw ad cy D A0 H0 nL σz) pc ls st σ := by
  intro H locs lsl hP hS hl hls hst hσ
  exact lv_goto hx hb hd ht (h H locs lsl hP hS hl hls hst hσ)
def cnd (k : Nat) : ClassFile.Cond := match k with
  | 0 => .eq
  | 1 => .ne
  | 2 => .lt
  | 3 => .ge
  | 4 => .gt
  | _ => .le
theorem w_if {cond tgt nx : Nat} {off : Int} (hx : p.tables.exec = Jvm.exec) (hb : c.code = cc) (hd : decode cc pc = .ok (.ifCond (cnd cond) off, 3)) (ht : (pc : Int) + off = (tgt : Int)) (hn : nx = pc + 3) (h : s_if (AMW p l e R s m args below meth c cells slots Qw ad cy D A0 H0 nL σz) ls st σ cond tgt nx) : (AMW p l e R s m args below meth c cells slots Qw ad cy D A0 H0 nL σz) pc ls st σ := by
  intro H locs lsl hP hS hl hls hst hσ
  subst hn
  unfold s_if at h
  split at h
  · rename_i x st'
    obtain ⟨hr, h⟩ := h
    have e0 : inR 0 := by omega
    have kt := fun (g : (AMW p l e R s m args below meth c cells slots Qw ad cy D A0 H0 nL σz) tgt ls st' σ) => g H locs lsl hP hS hl hls (ok_tail hst) hσ
    have kf := fun (g : (AMW p l e R s m args below meth c cells slots Qw ad cy D A0 H0 nL σz) (pc + 3) ls st' σ) => g H locs lsl hP hS hl hls (ok_tail hst) hσ
    unfold brc at h
    unfold cnd at hd
    split at h <;> try dsimp only at hd
    · exact lv_if_eq hx hb hd ht (fun q => kt (h.1 ((oi_eq hr e0).mp q))) (fun q => kf (h.2 (fun z => q ((oi_eq hr e0).mpr z))))
    · exact lv_if_ne hx hb hd ht (fun q => kt (h.1 (fun z => q ((oi_eq hr e0).mpr z)))) (fun q => kf (h.2 (by first | exact ((oi_eq hr e0).mp q) | exact ((oi_eq hr e0).mp (Classical.not_not.mp q)))))
    · exact lv_if_lt hx hb hd ht (fun q => kt (h.1 ((oi_lt hr e0).mp q))) (fun q => kf (h.2 (Int.not_lt.mp (fun z => q ((oi_lt hr e0).mpr z)))))
    · exact lv_if_ge hx hb hd ht (fun q => kt (h.1 ((oi_le e0 hr).mp q))) (fun q => kf (h.2 (Int.not_le.mp (fun z => q ((oi_le e0 hr).mpr z)))))
    · exact lv_if_gt hx hb hd ht (fun q => kt (h.1 ((oi_lt e0 hr).mp q))) (fun q => kf (h.2 (Int.not_lt.mp (fun z => q ((oi_lt e0 hr).mpr z)))))
    · have hd2 : decode cc pc = .ok (.ifCond .le off, 3) := by
        rw [hd]
        congr 3
        split <;> first | rfl | (exfalso; omega) | contradiction
      exact lv_if_le hx hb hd2 ht (fun q => kt (h.1 ((oi_le hr e0).mp q))) (fun q => kf (h.2 (Int.not_le.mp (fun z => q ((oi_le hr e0).mpr z)))))
  · exact h.elim
theorem w_icmp {cond tgt nx : Nat} {off : Int} (hx : p.tables.exec = Jvm.exec) (hb : c.code = cc) (hd : decode cc pc = .ok (.if_icmp (cnd cond) off, 3)) (ht : (pc : Int) + off = (tgt : Int)) (hn : nx = pc + 3) (h : s_icmp (AMW p l e R s m args below meth c cells slots Qw ad cy D A0 H0 nL σz) ls st σ cond tgt nx) : (AMW p l e R s m args below meth c cells slots Qw ad cy D A0 H0 nL σz) pc ls st σ := by
  intro H locs lsl hP hS hl hls hst hσ
  subst hn
  unfold s_icmp at h
  split at h
  · rename_i y x st'
    obtain ⟨⟨hr, e0⟩, h⟩ := h
    have kt := fun (g : (AMW p l e R s m args below meth c cells slots Qw ad cy D A0 H0 nL σz) tgt ls st' σ) => g H locs lsl hP hS hl hls (ok_tail (ok_tail hst)) hσ
    have kf := fun (g : (AMW p l e R s m args below meth c cells slots Qw ad cy D A0 H0 nL σz) (pc + 3) ls st' σ) => g H locs lsl hP hS hl hls (ok_tail (ok_tail hst)) hσ
    unfold brc at h
    unfold cnd at hd
    split at h <;> try dsimp only at hd
    · exact lv_icmp_eq hx hb hd ht (fun q => kt (h.1 ((oi_eq hr e0).mp q))) (fun q => kf (h.2 (fun z => q ((oi_eq hr e0).mpr z))))
    · exact lv_icmp_ne hx hb hd ht (fun q => kt (h.1 (fun z => q ((oi_eq hr e0).mpr z)))) (fun q => kf (h.2 (by first | exact ((oi_eq hr e0).mp q) | exact ((oi_eq hr e0).mp (Classical.not_not.mp q)))))
    · exact lv_icmp_lt hx hb hd ht (fun q => kt (h.1 ((oi_lt hr e0).mp q))) (fun q => kf (h.2 (Int.not_lt.mp (fun z => q ((oi_lt hr e0).mpr z)))))
    · exact lv_icmp_ge hx hb hd ht (fun q => kt (h.1 ((oi_le e0 hr).mp q))) (fun q => kf (h.2 (Int.not_le.mp (fun z => q ((oi_le e0 hr).mpr z)))))
    · exact lv_icmp_gt hx hb hd ht (fun q => kt (h.1 ((oi_lt e0 hr).mp q))) (fun q => kf (h.2 (Int.not_lt.mp (fun z => q ((oi_lt e0 hr).mpr z)))))
    · have hd2 : decode cc pc = .ok (.if_icmp .le off, 3) := by
        rw [hd]
        congr 3
        split <;> first | rfl | (exfalso; omega) | contradiction
      exact lv_icmp_le hx hb hd2 ht (fun q => kt (h.1 ((oi_le hr e0).mp q))) (fun q => kf (h.2 (Int.not_le.mp (fun z => q ((oi_le hr e0).mpr z)))))
  · exact h.elim
theorem w_i2c {nx : Nat} (hx : p.tables.exec = Jvm.exec) (hb : c.code = cc) (hd : decode cc pc = .ok (.i2c, 1) ∧ nx = pc + 1) (h : s_i2c (AMW p l e R s m args below meth c cells slots Qw ad cy D A0 H0 nL σz) ls st σ nx) : (AMW p l e R s m args below meth c cells slots Qw ad cy D A0 H0 nL σz) pc ls st σ := by
  intro H locs lsl hP hS hl hls hst hσ
  unfold s_i2c at h
  split at h
  · rename_i x st'
    obtain ⟨hd, rfl⟩ := hd
    obtain ⟨⟨h1, h2⟩, h⟩ := h
    refine lv_i2c hx hb hd (v := Int32.ofInt x) ?_ (h H locs lsl hP hS hl hls (ok_cons trivial (ok_tail hst)) hσ)
    rw [oi_nat h1, pk_char, pk_tn (by omega), Nat.mod_eq_of_lt (by omega)]
  · exact h.elim
theorem and_M (x : Int) : Int32.ofInt x &&& Int32.ofInt 2147483647 = Int32.ofInt (x % 2147483648) := by
  apply Int32.toBitVec_inj.mp
  show BitVec.ofInt 32 x &&& BitVec.ofInt 32 2147483647 = BitVec.ofInt 32 (x % 2147483648)
  apply BitVec.eq_of_toNat_eq
  rw [BitVec.toNat_and, BitVec.toNat_ofInt, BitVec.toNat_ofInt, BitVec.toNat_ofInt]
  have e : ((2147483647 : Int) % ((2 ^ 32 : Nat) : Int)).toNat = 2 ^ 31 - 1 := by decide
  rw [e, Nat.and_two_pow_sub_one_eq_mod]
  omega
theorem shr_M {x : Int} (h0 : 0 ≤ x) (h1 : x ≤ 2147483647) : Int32.ofInt x >>> (Int32.ofInt 6 &&& 31) = Int32.ofInt (x / 64) := by
  rw [oi_nat h0, pk_shrN (by omega) _ 6 (by decide +kernel), oi_nat (show 0 ≤ x / 64 by omega)]
  congr 1
  omega
theorem w_and {nx : Nat} (hx : p.tables.exec = Jvm.exec) (hb : c.code = cc) (hd : decode cc pc = .ok (.iand, 1) ∧ nx = pc + 1) (h : s_and (AMW p l e R s m args below meth c cells slots Qw ad cy D A0 H0 nL σz) ls st σ nx) : (AMW p l e R s m args below meth c cells slots Qw ad cy D A0 H0 nL σz) pc ls st σ := by
  intro H locs lsl hP hS hl hls hst hσ
  unfold s_and at h
  split at h
  · obtain ⟨hd, rfl⟩ := hd
    obtain ⟨rfl, h⟩ := h
    have k := h H locs lsl hP hS hl hls (ok_cons trivial (ok_tail (ok_tail hst))) hσ
    simp only [List.map_cons, conc, ← and_M] at k
    exact lv_iand hx hb hd k
  · exact h.elim
theorem w_shr {nx : Nat} (hx : p.tables.exec = Jvm.exec) (hb : c.code = cc) (hd : decode cc pc = .ok (.ishr, 1) ∧ nx = pc + 1) (h : s_shr (AMW p l e R s m args below meth c cells slots Qw ad cy D A0 H0 nL σz) ls st σ nx) : (AMW p l e R s m args below meth c cells slots Qw ad cy D A0 H0 nL σz) pc ls st σ := by
  intro H locs lsl hP hS hl hls hst hσ
  unfold s_shr at h
  split at h
  · obtain ⟨hd, rfl⟩ := hd
    obtain ⟨⟨rfl, h0, h1⟩, h⟩ := h
    have k := h H locs lsl hP hS hl hls (ok_cons trivial (ok_tail (ok_tail hst))) hσ
    simp only [List.map_cons, conc, ← shr_M h0 h1] at k
    exact lv_ishr hx hb hd k
  · exact h.elim
end AMS
end
section
/-! THE CODE as the twin reads it -/
def lk : List (Nat × AMI) → Nat → AMI
  | [], _ => (99, 0, 0, 0, 0, 0)
  | (a, i) :: t, n => bif Nat.beq a n then i else lk t n
def lk2 : List (Nat × List (Nat × AMI)) → Nat → AMI
  | [], _ => (99, 0, 0, 0, 0, 0)
  | (b, l) :: t, n => bif Nat.blt n b then lk l n else lk2 t n
def tb_X0_takeAll : List (Nat × List (Nat × AMI)) := [
  (20, [(0, (2, 0, 0, 0, 0, 1)), (1, (2, 0, 1, 0, 0, 2)), (2, (31, 40, 1, 2, 0, 5)), (5, (2, 0, 1, 0, 0, 6)), (6, (25, 30, 0, 6, 0, 9)), (9, (0, 0, 0, 0, 0, 10)), (10, (2, 0, 0, 0, 0, 11)), (11, (25, 30, 0, 6, 0, 14)), (14, (0, 0, 0, 0, 0, 15)), (15, (0, 4, 0, 0, 0, 16)), (16, (29, 44, 0, 0, 0, 19)), (19, (43, 0, 0, 0, 0, 0))])]
def tb_X0_takeLayersAndAshes : List (Nat × List (Nat × AMI)) := [
  (20, [(0, (2, 0, 0, 0, 0, 1)), (1, (2, 0, 1, 0, 0, 2)), (2, (25, 33, 0, 7, 0, 5)), (5, (26, 33, 0, 7, 0, 8)), (8, (2, 0, 1, 0, 0, 9)), (9, (25, 9, 0, 0, 0, 12)), (12, (0, 0, 0, 0, 0, 13)), (13, (2, 0, 0, 0, 0, 14)), (14, (25, 9, 0, 0, 0, 17)), (17, (0, 0, 0, 0, 0, 18)), (18, (2, 0, 0, 0, 0, 19)), (19, (25, 33, 0, 7, 0, 22))]),
  (44, [(22, (29, 44, 0, 0, 0, 25)), (25, (2, 0, 1, 0, 0, 26)), (26, (25, 15, 0, 1, 0, 29)), (29, (0, 0, 0, 0, 0, 30)), (30, (2, 0, 0, 0, 0, 31)), (31, (25, 15, 0, 1, 0, 34)), (34, (0, 0, 0, 0, 0, 35)), (35, (2, 0, 0, 0, 0, 36)), (36, (25, 33, 0, 7, 0, 39)), (39, (29, 44, 0, 0, 0, 42)), (42, (2, 0, 1, 0, 0, 43)), (43, (25, 18, 0, 2, 0, 46))]),
  (68, [(46, (0, 0, 0, 0, 0, 47)), (47, (2, 0, 0, 0, 0, 48)), (48, (25, 18, 0, 2, 0, 51)), (51, (0, 0, 0, 0, 0, 52)), (52, (2, 0, 0, 0, 0, 53)), (53, (25, 33, 0, 7, 0, 56)), (56, (29, 44, 0, 0, 0, 59)), (59, (2, 0, 0, 0, 0, 60)), (60, (2, 0, 1, 0, 0, 61)), (61, (25, 37, 0, 8, 0, 64)), (64, (26, 37, 0, 8, 0, 67)), (67, (2, 0, 1, 0, 0, 68))]),
  (90, [(68, (25, 21, 0, 3, 0, 71)), (71, (0, 0, 0, 0, 0, 72)), (72, (2, 0, 0, 0, 0, 73)), (73, (25, 21, 0, 3, 0, 76)), (76, (0, 0, 0, 0, 0, 77)), (77, (2, 0, 0, 0, 0, 78)), (78, (25, 37, 0, 8, 0, 81)), (81, (29, 44, 0, 0, 0, 84)), (84, (2, 0, 1, 0, 0, 85)), (85, (25, 24, 0, 4, 0, 88)), (88, (0, 0, 0, 0, 0, 89)), (89, (2, 0, 0, 0, 0, 90))]),
  (112, [(90, (25, 24, 0, 4, 0, 93)), (93, (0, 0, 0, 0, 0, 94)), (94, (2, 0, 0, 0, 0, 95)), (95, (25, 37, 0, 8, 0, 98)), (98, (29, 44, 0, 0, 0, 101)), (101, (2, 0, 1, 0, 0, 102)), (102, (25, 27, 0, 5, 0, 105)), (105, (0, 0, 0, 0, 0, 106)), (106, (2, 0, 0, 0, 0, 107)), (107, (25, 27, 0, 5, 0, 110)), (110, (0, 0, 0, 0, 0, 111)), (111, (2, 0, 0, 0, 0, 112))]),
  (119, [(112, (25, 37, 0, 8, 0, 115)), (115, (29, 44, 0, 0, 0, 118)), (118, (43, 0, 0, 0, 0, 0))])]
def tb_X0_layerProperties : List (Nat × List (Nat × AMI)) := [
  (22, [(0, (1, 0, 1, 0, 0, 1)), (1, (15, 8, 1, 9, 0, 4)), (4, (2, 0, 0, 0, 0, 5)), (5, (25, 9, 0, 0, 0, 8)), (8, (42, 0, 0, 0, 0, 0)), (9, (1, 0, 1, 0, 0, 10)), (10, (0, 1, 0, 0, 0, 11)), (11, (16, 10, 1, 21, 0, 14)), (14, (2, 0, 0, 0, 0, 15)), (15, (25, 15, 0, 1, 0, 18)), (18, (17, 7, 0, 0, 0, 25)), (21, (2, 0, 0, 0, 0, 22))]),
  (26, [(22, (25, 18, 0, 2, 0, 25)), (25, (42, 0, 0, 0, 0, 0))])]
def tb_X0_ashProperties : List (Nat × List (Nat × AMI)) := [
  (22, [(0, (1, 0, 1, 0, 0, 1)), (1, (15, 8, 1, 9, 0, 4)), (4, (2, 0, 0, 0, 0, 5)), (5, (25, 21, 0, 3, 0, 8)), (8, (42, 0, 0, 0, 0, 0)), (9, (1, 0, 1, 0, 0, 10)), (10, (0, 1, 0, 0, 0, 11)), (11, (16, 10, 1, 21, 0, 14)), (14, (2, 0, 0, 0, 0, 15)), (15, (25, 24, 0, 4, 0, 18)), (18, (17, 7, 0, 0, 0, 25)), (21, (2, 0, 0, 0, 0, 22))]),
  (26, [(22, (25, 27, 0, 5, 0, 25)), (25, (42, 0, 0, 0, 0, 0))])]
def tb_X0_insertLayer : List (Nat × List (Nat × AMI)) := [
  (20, [(0, (2, 0, 0, 0, 0, 1)), (1, (25, 9, 0, 0, 0, 4)), (4, (1, 0, 1, 0, 0, 5)), (5, (2, 0, 0, 0, 0, 6)), (6, (25, 33, 0, 7, 0, 9)), (9, (1, 0, 2, 0, 0, 10)), (10, (32, 50, 18, 4, 0, 13)), (13, (2, 0, 0, 0, 0, 14)), (14, (25, 15, 0, 1, 0, 17)), (17, (1, 0, 1, 0, 0, 18)), (18, (2, 0, 0, 0, 0, 19)), (19, (25, 33, 0, 7, 0, 22))]),
  (43, [(22, (1, 0, 3, 0, 0, 23)), (23, (32, 50, 18, 4, 0, 26)), (26, (2, 0, 0, 0, 0, 27)), (27, (25, 18, 0, 2, 0, 30)), (30, (1, 0, 1, 0, 0, 31)), (31, (2, 0, 0, 0, 0, 32)), (32, (25, 33, 0, 7, 0, 35)), (35, (1, 0, 4, 0, 0, 37)), (37, (32, 50, 18, 4, 0, 40)), (40, (2, 0, 0, 0, 0, 41)), (41, (12, 0, 0, 0, 0, 42)), (42, (25, 33, 0, 7, 0, 45))]),
  (67, [(45, (0, 1, 0, 0, 0, 46)), (46, (5, 0, 0, 0, 0, 47)), (47, (26, 33, 0, 7, 0, 50)), (50, (0, 0, 0, 0, 0, 51)), (51, (3, 0, 5, 0, 0, 53)), (53, (1, 0, 5, 0, 0, 55)), (55, (2, 0, 0, 0, 0, 56)), (56, (25, 37, 0, 8, 0, 59)), (59, (16, 31, 3, 90, 0, 62)), (62, (2, 0, 0, 0, 0, 63)), (63, (25, 21, 0, 3, 0, 66)), (66, (1, 0, 5, 0, 0, 68))]),
  (85, [(68, (20, 0, 0, 0, 0, 69)), (69, (1, 0, 1, 0, 0, 70)), (70, (16, 14, 5, 84, 0, 73)), (73, (2, 0, 0, 0, 0, 74)), (74, (25, 21, 0, 3, 0, 77)), (77, (1, 0, 5, 0, 0, 79)), (79, (13, 0, 0, 0, 0, 80)), (80, (20, 0, 0, 0, 0, 81)), (81, (0, 1, 0, 0, 0, 82)), (82, (5, 0, 0, 0, 0, 83)), (83, (23, 0, 0, 0, 0, 84)), (84, (11, 1, 5, 0, 0, 87))]),
  (91, [(87, (17, (-34), 0, 0, 0, 53)), (90, (43, 0, 0, 0, 0, 0))])]
def tb_X0_deleteLayer : List (Nat × List (Nat × AMI)) := [
  (18, [(0, (2, 0, 0, 0, 0, 1)), (1, (1, 0, 1, 0, 0, 2)), (2, (0, 1, 0, 0, 0, 3)), (3, (5, 0, 0, 0, 0, 4)), (4, (31, 54, 8, 2, 0, 7)), (7, (3, 0, 2, 0, 0, 8)), (8, (1, 0, 2, 0, 0, 9)), (9, (0, (-1), 0, 0, 0, 10)), (10, (16, 21, 0, 31, 0, 13)), (13, (1, 0, 1, 0, 0, 14)), (14, (15, 12, 0, 26, 0, 17)), (17, (2, 0, 0, 0, 0, 18))]),
  (38, [(18, (1, 0, 1, 0, 0, 19)), (19, (31, 54, 8, 2, 0, 22)), (22, (0, (-1), 0, 0, 0, 23)), (23, (16, 8, 0, 31, 0, 26)), (26, (2, 0, 0, 0, 0, 27)), (27, (1, 0, 2, 0, 0, 28)), (28, (31, 58, 7, 2, 0, 31)), (31, (2, 0, 0, 0, 0, 32)), (32, (25, 9, 0, 0, 0, 35)), (35, (1, 0, 1, 0, 0, 36)), (36, (2, 0, 0, 0, 0, 37)), (37, (25, 33, 0, 7, 0, 40))]),
  (62, [(40, (32, 62, 19, 3, 0, 43)), (43, (2, 0, 0, 0, 0, 44)), (44, (25, 15, 0, 1, 0, 47)), (47, (1, 0, 1, 0, 0, 48)), (48, (2, 0, 0, 0, 0, 49)), (49, (25, 33, 0, 7, 0, 52)), (52, (32, 62, 19, 3, 0, 55)), (55, (2, 0, 0, 0, 0, 56)), (56, (25, 18, 0, 2, 0, 59)), (59, (1, 0, 1, 0, 0, 60)), (60, (2, 0, 0, 0, 0, 61)), (61, (25, 33, 0, 7, 0, 64))]),
  (82, [(64, (32, 62, 19, 3, 0, 67)), (67, (2, 0, 0, 0, 0, 68)), (68, (12, 0, 0, 0, 0, 69)), (69, (25, 33, 0, 7, 0, 72)), (72, (0, 1, 0, 0, 0, 73)), (73, (6, 0, 0, 0, 0, 74)), (74, (26, 33, 0, 7, 0, 77)), (77, (0, 0, 0, 0, 0, 78)), (78, (3, 0, 3, 0, 0, 79)), (79, (1, 0, 3, 0, 0, 80)), (80, (2, 0, 0, 0, 0, 81)), (81, (25, 37, 0, 8, 0, 84))]),
  (104, [(84, (16, 29, 3, 113, 0, 87)), (87, (2, 0, 0, 0, 0, 88)), (88, (25, 21, 0, 3, 0, 91)), (91, (1, 0, 3, 0, 0, 92)), (92, (20, 0, 0, 0, 0, 93)), (93, (1, 0, 1, 0, 0, 94)), (94, (16, 13, 5, 107, 0, 97)), (97, (2, 0, 0, 0, 0, 98)), (98, (25, 21, 0, 3, 0, 101)), (101, (1, 0, 3, 0, 0, 102)), (102, (13, 0, 0, 0, 0, 103)), (103, (20, 0, 0, 0, 0, 104))]),
  (114, [(104, (0, 1, 0, 0, 0, 105)), (105, (6, 0, 0, 0, 0, 106)), (106, (23, 0, 0, 0, 0, 107)), (107, (11, 1, 3, 0, 0, 110)), (110, (17, (-31), 0, 0, 0, 79)), (113, (43, 0, 0, 0, 0, 0))])]
def tb_X0_insertAsh : List (Nat × List (Nat × AMI)) := [
  (22, [(0, (0, 0, 0, 0, 0, 1)), (1, (3, 0, 4, 0, 0, 3)), (3, (0, 0, 0, 0, 0, 4)), (4, (3, 0, 5, 0, 0, 6)), (6, (1, 0, 5, 0, 0, 8)), (8, (2, 0, 0, 0, 0, 9)), (9, (25, 37, 0, 8, 0, 12)), (12, (16, 23, 3, 35, 0, 15)), (15, (2, 0, 0, 0, 0, 16)), (16, (25, 21, 0, 3, 0, 19)), (19, (1, 0, 5, 0, 0, 21)), (21, (20, 0, 0, 0, 0, 22))]),
  (47, [(22, (1, 0, 1, 0, 0, 23)), (23, (16, 6, 3, 29, 0, 26)), (26, (11, 1, 4, 0, 0, 29)), (29, (11, 1, 5, 0, 0, 32)), (32, (17, (-26), 0, 0, 0, 6)), (35, (2, 0, 0, 0, 0, 36)), (36, (25, 21, 0, 3, 0, 39)), (39, (1, 0, 4, 0, 0, 41)), (41, (2, 0, 0, 0, 0, 42)), (42, (25, 37, 0, 8, 0, 45)), (45, (1, 0, 1, 0, 0, 46)), (46, (32, 50, 18, 4, 0, 49))]),
  (71, [(49, (2, 0, 0, 0, 0, 50)), (50, (25, 24, 0, 4, 0, 53)), (53, (1, 0, 4, 0, 0, 55)), (55, (2, 0, 0, 0, 0, 56)), (56, (25, 37, 0, 8, 0, 59)), (59, (1, 0, 2, 0, 0, 60)), (60, (32, 50, 18, 4, 0, 63)), (63, (2, 0, 0, 0, 0, 64)), (64, (25, 27, 0, 5, 0, 67)), (67, (1, 0, 4, 0, 0, 69)), (69, (2, 0, 0, 0, 0, 70)), (70, (25, 37, 0, 8, 0, 73))]),
  (90, [(73, (1, 0, 3, 0, 0, 74)), (74, (32, 50, 18, 4, 0, 77)), (77, (2, 0, 0, 0, 0, 78)), (78, (12, 0, 0, 0, 0, 79)), (79, (25, 37, 0, 8, 0, 82)), (82, (0, 1, 0, 0, 0, 83)), (83, (5, 0, 0, 0, 0, 84)), (84, (26, 37, 0, 8, 0, 87)), (87, (1, 0, 4, 0, 0, 89)), (89, (40, 0, 0, 0, 0, 0))])]
def tb_X0_deleteAsh : List (Nat × List (Nat × AMI)) := [
  (22, [(0, (2, 0, 0, 0, 0, 1)), (1, (25, 21, 0, 3, 0, 4)), (4, (1, 0, 1, 0, 0, 5)), (5, (2, 0, 0, 0, 0, 6)), (6, (25, 37, 0, 8, 0, 9)), (9, (32, 62, 19, 3, 0, 12)), (12, (2, 0, 0, 0, 0, 13)), (13, (25, 24, 0, 4, 0, 16)), (16, (1, 0, 1, 0, 0, 17)), (17, (2, 0, 0, 0, 0, 18)), (18, (25, 37, 0, 8, 0, 21)), (21, (32, 62, 19, 3, 0, 24))]),
  (44, [(24, (2, 0, 0, 0, 0, 25)), (25, (25, 27, 0, 5, 0, 28)), (28, (1, 0, 1, 0, 0, 29)), (29, (2, 0, 0, 0, 0, 30)), (30, (25, 37, 0, 8, 0, 33)), (33, (32, 62, 19, 3, 0, 36)), (36, (2, 0, 0, 0, 0, 37)), (37, (12, 0, 0, 0, 0, 38)), (38, (25, 37, 0, 8, 0, 41)), (41, (0, 1, 0, 0, 0, 42)), (42, (6, 0, 0, 0, 0, 43)), (43, (26, 37, 0, 8, 0, 46))]),
  (47, [(46, (43, 0, 0, 0, 0, 0))])]
def tb_X0_ashAt : List (Nat × List (Nat × AMI)) := [
  (18, [(0, (0, 0, 0, 0, 0, 1)), (1, (3, 0, 2, 0, 0, 2)), (2, (1, 0, 2, 0, 0, 3)), (3, (2, 0, 0, 0, 0, 4)), (4, (25, 37, 0, 8, 0, 7)), (7, (16, 21, 3, 28, 0, 10)), (10, (2, 0, 0, 0, 0, 11)), (11, (25, 21, 0, 3, 0, 14)), (14, (1, 0, 2, 0, 0, 15)), (15, (20, 0, 0, 0, 0, 16)), (16, (1, 0, 1, 0, 0, 17)), (17, (16, 5, 1, 22, 0, 20))]),
  (30, [(20, (1, 0, 2, 0, 0, 21)), (21, (40, 0, 0, 0, 0, 0)), (22, (11, 1, 2, 0, 0, 25)), (25, (17, (-23), 0, 0, 0, 2)), (28, (0, (-1), 0, 0, 0, 29)), (29, (40, 0, 0, 0, 0, 0))])]
def tb_X0_thicknessBetween : List (Nat × List (Nat × AMI)) := [
  (19, [(0, (0, 0, 0, 0, 0, 1)), (1, (3, 0, 3, 0, 0, 2)), (2, (1, 0, 1, 0, 0, 3)), (3, (3, 0, 4, 0, 0, 5)), (5, (1, 0, 4, 0, 0, 7)), (7, (1, 0, 2, 0, 0, 8)), (8, (16, 19, 3, 27, 0, 11)), (11, (1, 0, 3, 0, 0, 12)), (12, (2, 0, 0, 0, 0, 13)), (13, (25, 9, 0, 0, 0, 16)), (16, (1, 0, 4, 0, 0, 18)), (18, (20, 0, 0, 0, 0, 19))]),
  (29, [(19, (5, 0, 0, 0, 0, 20)), (20, (3, 0, 3, 0, 0, 21)), (21, (11, 1, 4, 0, 0, 24)), (24, (17, (-19), 0, 0, 0, 5)), (27, (1, 0, 3, 0, 0, 28)), (28, (40, 0, 0, 0, 0, 0))])]
def tb_X0_layersOfKind : List (Nat × List (Nat × AMI)) := [
  (18, [(0, (0, 0, 0, 0, 0, 1)), (1, (3, 0, 2, 0, 0, 2)), (2, (0, 0, 0, 0, 0, 3)), (3, (3, 0, 3, 0, 0, 4)), (4, (1, 0, 3, 0, 0, 5)), (5, (2, 0, 0, 0, 0, 6)), (6, (25, 33, 0, 7, 0, 9)), (9, (16, 22, 3, 31, 0, 12)), (12, (2, 0, 0, 0, 0, 13)), (13, (25, 15, 0, 1, 0, 16)), (16, (1, 0, 3, 0, 0, 17)), (17, (20, 0, 0, 0, 0, 18))]),
  (33, [(18, (1, 0, 1, 0, 0, 19)), (19, (16, 6, 1, 25, 0, 22)), (22, (11, 1, 2, 0, 0, 25)), (25, (11, 1, 3, 0, 0, 28)), (28, (17, (-24), 0, 0, 0, 4)), (31, (1, 0, 2, 0, 0, 32)), (32, (40, 0, 0, 0, 0, 0))])]
def tb_X0_leastOwn : List (Nat × List (Nat × AMI)) := [
  (16, [(0, (2, 0, 0, 0, 0, 1)), (1, (25, 15, 0, 1, 0, 4)), (4, (1, 0, 1, 0, 0, 5)), (5, (20, 0, 0, 0, 0, 6)), (6, (0, 1, 0, 0, 0, 7)), (7, (16, 7, 1, 14, 0, 10)), (10, (0, 0, 0, 0, 0, 11)), (11, (17, 4, 0, 0, 0, 15)), (14, (0, 1, 0, 0, 0, 15)), (15, (40, 0, 0, 0, 0, 0))])]
def tb_X0_mostOwn : List (Nat × List (Nat × AMI)) := [
  (16, [(0, (2, 0, 0, 0, 0, 1)), (1, (25, 15, 0, 1, 0, 4)), (4, (1, 0, 1, 0, 0, 5)), (5, (20, 0, 0, 0, 0, 6)), (6, (0, 2, 0, 0, 0, 7)), (7, (16, 7, 1, 14, 0, 10)), (10, (0, 2, 0, 0, 0, 11)), (11, (17, 4, 0, 0, 0, 15)), (14, (0, 1, 0, 0, 0, 15)), (15, (40, 0, 0, 0, 0, 0))])]
def tb_X0_mostYears : List (Nat × List (Nat × AMI)) := [
  (20, [(0, (2, 0, 0, 0, 0, 1)), (1, (25, 15, 0, 1, 0, 4)), (4, (1, 0, 1, 0, 0, 5)), (5, (20, 0, 0, 0, 0, 6)), (6, (0, 2, 0, 0, 0, 7)), (7, (16, 7, 1, 14, 0, 10)), (10, (0, 2, 0, 0, 0, 11)), (11, (17, 4, 0, 0, 0, 15)), (14, (0, 1, 0, 0, 0, 15)), (15, (2, 0, 0, 0, 0, 16)), (16, (25, 18, 0, 2, 0, 19)), (19, (1, 0, 1, 0, 0, 20))]),
  (23, [(20, (20, 0, 0, 0, 0, 21)), (21, (5, 0, 0, 0, 0, 22)), (22, (40, 0, 0, 0, 0, 0))])]
def tb_X0_ownCost : List (Nat × List (Nat × AMI)) := [
  (20, [(0, (2, 0, 0, 0, 0, 1)), (1, (25, 15, 0, 1, 0, 4)), (4, (1, 0, 1, 0, 0, 5)), (5, (20, 0, 0, 0, 0, 6)), (6, (0, 1, 0, 0, 0, 7)), (7, (16, 14, 1, 21, 0, 10)), (10, (1, 0, 2, 0, 0, 11)), (11, (15, 10, 1, 21, 0, 14)), (14, (2, 0, 0, 0, 0, 15)), (15, (25, 30, 0, 6, 0, 18)), (18, (0, 0, 0, 0, 0, 19)), (19, (20, 0, 0, 0, 0, 20))]),
  (38, [(20, (40, 0, 0, 0, 0, 0)), (21, (2, 0, 0, 0, 0, 22)), (22, (25, 15, 0, 1, 0, 25)), (25, (1, 0, 1, 0, 0, 26)), (26, (20, 0, 0, 0, 0, 27)), (27, (0, 2, 0, 0, 0, 28)), (28, (16, 17, 1, 45, 0, 31)), (31, (1, 0, 2, 0, 0, 32)), (32, (0, 2, 0, 0, 0, 33)), (33, (16, 12, 1, 45, 0, 36)), (36, (2, 0, 0, 0, 0, 37)), (37, (25, 30, 0, 6, 0, 40))]),
  (47, [(40, (0, 1, 0, 0, 0, 41)), (41, (20, 0, 0, 0, 0, 42)), (42, (17, 4, 0, 0, 0, 46)), (45, (0, 0, 0, 0, 0, 46)), (46, (40, 0, 0, 0, 0, 0))])]
def tb_X0_missingCost : List (Nat × List (Nat × AMI)) := [
  (9, [(0, (1, 0, 1, 0, 0, 1)), (1, (2, 0, 0, 0, 0, 2)), (2, (25, 30, 0, 6, 0, 5)), (5, (0, 2, 0, 0, 0, 6)), (6, (20, 0, 0, 0, 0, 7)), (7, (7, 0, 0, 0, 0, 8)), (8, (40, 0, 0, 0, 0, 0))])]
def tb_X0_ashCost : List (Nat × List (Nat × AMI)) := [
  (16, [(0, (1, 0, 1, 0, 0, 1)), (1, (0, (-1), 0, 0, 0, 2)), (2, (16, 5, 1, 7, 0, 5)), (5, (0, 0, 0, 0, 0, 6)), (6, (40, 0, 0, 0, 0, 0)), (7, (1, 0, 2, 0, 0, 8)), (8, (2, 0, 0, 0, 0, 9)), (9, (25, 24, 0, 4, 0, 12)), (12, (1, 0, 1, 0, 0, 13)), (13, (20, 0, 0, 0, 0, 14)), (14, (6, 0, 0, 0, 0, 15)), (15, (35, 66, 0, 0, 0, 18))]),
  (37, [(18, (3, 0, 3, 0, 0, 19)), (19, (1, 0, 3, 0, 0, 20)), (20, (2, 0, 0, 0, 0, 21)), (21, (25, 27, 0, 5, 0, 24)), (24, (1, 0, 1, 0, 0, 25)), (25, (20, 0, 0, 0, 0, 26)), (26, (16, 8, 5, 34, 0, 29)), (29, (0, 268435456, 0, 0, 0, 31)), (31, (17, 11, 0, 0, 0, 42)), (34, (1, 0, 3, 0, 0, 35)), (35, (2, 0, 0, 0, 0, 36)), (36, (25, 30, 0, 6, 0, 39))]),
  (43, [(39, (0, 3, 0, 0, 0, 40)), (40, (20, 0, 0, 0, 0, 41)), (41, (7, 0, 0, 0, 0, 42)), (42, (40, 0, 0, 0, 0, 0))])]
def tb_X0_fitsWith : List (Nat × List (Nat × AMI)) := [
  (18, [(0, (0, 0, 0, 0, 0, 1)), (1, (3, 0, 2, 0, 0, 2)), (2, (0, 0, 0, 0, 0, 3)), (3, (3, 0, 3, 0, 0, 4)), (4, (0, 0, 0, 0, 0, 5)), (5, (3, 0, 4, 0, 0, 7)), (7, (1, 0, 4, 0, 0, 9)), (9, (2, 0, 0, 0, 0, 10)), (10, (25, 33, 0, 7, 0, 13)), (13, (16, 100, 3, 113, 0, 16)), (16, (1, 0, 2, 0, 0, 17)), (17, (2, 0, 0, 0, 0, 18))]),
  (40, [(18, (1, 0, 4, 0, 0, 20)), (20, (31, 72, 11, 2, 0, 23)), (23, (5, 0, 0, 0, 0, 24)), (24, (3, 0, 2, 0, 0, 25)), (25, (0, 600, 0, 0, 0, 28)), (28, (1, 0, 3, 0, 0, 29)), (29, (2, 0, 0, 0, 0, 30)), (30, (1, 0, 4, 0, 0, 32)), (32, (31, 75, 13, 2, 0, 35)), (35, (5, 0, 0, 0, 0, 36)), (36, (33, 78, 0, 0, 0, 39)), (39, (3, 0, 3, 0, 0, 40))]),
  (59, [(40, (2, 0, 0, 0, 0, 41)), (41, (1, 0, 4, 0, 0, 43)), (43, (0, 1, 0, 0, 0, 44)), (44, (5, 0, 0, 0, 0, 45)), (45, (31, 54, 8, 2, 0, 48)), (48, (3, 0, 5, 0, 0, 50)), (50, (1, 0, 5, 0, 0, 52)), (52, (0, (-1), 0, 0, 0, 53)), (53, (16, 47, 0, 100, 0, 56)), (56, (1, 0, 2, 0, 0, 57)), (57, (2, 0, 0, 0, 0, 58)), (58, (25, 24, 0, 4, 0, 61))]),
  (79, [(61, (1, 0, 5, 0, 0, 63)), (63, (20, 0, 0, 0, 0, 64)), (64, (2, 0, 0, 0, 0, 65)), (65, (25, 27, 0, 5, 0, 68)), (68, (1, 0, 5, 0, 0, 70)), (70, (20, 0, 0, 0, 0, 71)), (71, (6, 0, 0, 0, 0, 72)), (72, (1, 0, 1, 0, 0, 73)), (73, (6, 0, 0, 0, 0, 74)), (74, (34, 82, 0, 0, 0, 77)), (77, (3, 0, 2, 0, 0, 78)), (78, (1, 0, 3, 0, 0, 79))]),
  (97, [(79, (2, 0, 0, 0, 0, 80)), (80, (25, 24, 0, 4, 0, 83)), (83, (1, 0, 5, 0, 0, 85)), (85, (20, 0, 0, 0, 0, 86)), (86, (2, 0, 0, 0, 0, 87)), (87, (25, 27, 0, 5, 0, 90)), (90, (1, 0, 5, 0, 0, 92)), (92, (20, 0, 0, 0, 0, 93)), (93, (5, 0, 0, 0, 0, 94)), (94, (1, 0, 1, 0, 0, 95)), (95, (5, 0, 0, 0, 0, 96)), (96, (33, 78, 0, 0, 0, 99))]),
  (115, [(99, (3, 0, 3, 0, 0, 100)), (100, (1, 0, 2, 0, 0, 101)), (101, (1, 0, 3, 0, 0, 102)), (102, (16, 5, 5, 107, 0, 105)), (105, (0, 0, 0, 0, 0, 106)), (106, (41, 0, 0, 0, 0, 0)), (107, (11, 1, 4, 0, 0, 110)), (110, (17, (-103), 0, 0, 0, 7)), (113, (0, 1, 0, 0, 0, 114)), (114, (41, 0, 0, 0, 0, 0))])]
def tb_X0_insertAt : List (Nat × List (Nat × AMI)) := [
  (18, [(0, (1, 0, 2, 0, 0, 1)), (1, (3, 0, 4, 0, 0, 3)), (3, (1, 0, 4, 0, 0, 5)), (5, (1, 0, 1, 0, 0, 6)), (6, (16, 19, 5, 25, 0, 9)), (9, (2, 0, 0, 0, 0, 10)), (10, (1, 0, 4, 0, 0, 12)), (12, (2, 0, 0, 0, 0, 13)), (13, (1, 0, 4, 0, 0, 15)), (15, (0, 1, 0, 0, 0, 16)), (16, (6, 0, 0, 0, 0, 17)), (17, (20, 0, 0, 0, 0, 18))]),
  (30, [(18, (23, 0, 0, 0, 0, 19)), (19, (11, (-1), 4, 0, 0, 22)), (22, (17, (-19), 0, 0, 0, 3)), (25, (2, 0, 0, 0, 0, 26)), (26, (1, 0, 1, 0, 0, 27)), (27, (1, 0, 3, 0, 0, 28)), (28, (23, 0, 0, 0, 0, 29)), (29, (43, 0, 0, 0, 0, 0))])]
def tb_X0_deleteAt : List (Nat × List (Nat × AMI)) := [
  (14, [(0, (1, 0, 1, 0, 0, 1)), (1, (0, 1, 0, 0, 0, 2)), (2, (5, 0, 0, 0, 0, 3)), (3, (3, 0, 3, 0, 0, 4)), (4, (1, 0, 3, 0, 0, 5)), (5, (1, 0, 2, 0, 0, 6)), (6, (16, 17, 3, 23, 0, 9)), (9, (2, 0, 0, 0, 0, 10)), (10, (1, 0, 3, 0, 0, 11)), (11, (0, 1, 0, 0, 0, 12)), (12, (6, 0, 0, 0, 0, 13)), (13, (2, 0, 0, 0, 0, 14))]),
  (24, [(14, (1, 0, 3, 0, 0, 15)), (15, (20, 0, 0, 0, 0, 16)), (16, (23, 0, 0, 0, 0, 17)), (17, (11, 1, 3, 0, 0, 20)), (20, (17, (-16), 0, 0, 0, 4)), (23, (43, 0, 0, 0, 0, 0))])]
def tb_X1_keep : List (Nat × List (Nat × AMI)) := [
  (20, [(0, (2, 0, 0, 0, 0, 1)), (1, (25, 11, 1, 0, 0, 4)), (4, (2, 0, 0, 0, 0, 5)), (5, (25, 18, 1, 1, 0, 8)), (8, (22, 0, 0, 0, 0, 9)), (9, (2, 0, 1, 0, 0, 10)), (10, (31, 25, 0, 2, 0, 13)), (13, (2, 0, 0, 0, 0, 14)), (14, (2, 0, 0, 0, 0, 15)), (15, (25, 18, 1, 1, 0, 18)), (18, (0, 5, 0, 0, 0, 19)), (19, (16, 7, 1, 26, 0, 22))]),
  (43, [(22, (0, 0, 0, 0, 0, 23)), (23, (17, 9, 0, 0, 0, 32)), (26, (2, 0, 0, 0, 0, 27)), (27, (25, 18, 1, 1, 0, 30)), (30, (0, 1, 0, 0, 0, 31)), (31, (5, 0, 0, 0, 0, 32)), (32, (26, 18, 1, 1, 0, 35)), (35, (2, 0, 0, 0, 0, 36)), (36, (0, 6, 0, 0, 0, 38)), (38, (2, 0, 0, 0, 0, 39)), (39, (25, 22, 1, 2, 0, 42)), (42, (0, 1, 0, 0, 0, 43))]),
  (51, [(43, (5, 0, 0, 0, 0, 44)), (44, (33, 29, 0, 0, 0, 47)), (47, (26, 22, 1, 2, 0, 50)), (50, (43, 0, 0, 0, 0, 0))])]
def tb_X1_restore : List (Nat × List (Nat × AMI)) := [
  (22, [(0, (2, 0, 0, 0, 0, 1)), (1, (2, 0, 0, 0, 0, 2)), (2, (25, 18, 1, 1, 0, 5)), (5, (15, 7, 1, 12, 0, 8)), (8, (0, 5, 0, 0, 0, 9)), (9, (17, 9, 0, 0, 0, 18)), (12, (2, 0, 0, 0, 0, 13)), (13, (25, 18, 1, 1, 0, 16)), (16, (0, 1, 0, 0, 0, 17)), (17, (6, 0, 0, 0, 0, 18)), (18, (26, 18, 1, 1, 0, 21)), (21, (2, 0, 1, 0, 0, 22))]),
  (42, [(22, (2, 0, 0, 0, 0, 23)), (23, (25, 11, 1, 0, 0, 26)), (26, (2, 0, 0, 0, 0, 27)), (27, (25, 18, 1, 1, 0, 30)), (30, (22, 0, 0, 0, 0, 31)), (31, (31, 25, 0, 2, 0, 34)), (34, (2, 0, 0, 0, 0, 35)), (35, (12, 0, 0, 0, 0, 36)), (36, (25, 22, 1, 2, 0, 39)), (39, (0, 1, 0, 0, 0, 40)), (40, (6, 0, 0, 0, 0, 41)), (41, (26, 22, 1, 2, 0, 44))]),
  (45, [(44, (43, 0, 0, 0, 0, 0))])]
def tb_X2_forget : List (Nat × List (Nat × AMI)) := [
  (16, [(0, (2, 0, 0, 0, 0, 1)), (1, (0, 0, 0, 0, 0, 2)), (2, (27, 52, 2, 12, 0, 5)), (5, (2, 0, 0, 0, 0, 6)), (6, (0, 0, 0, 0, 0, 7)), (7, (27, 56, 2, 13, 0, 10)), (10, (2, 0, 0, 0, 0, 11)), (11, (0, (-1), 0, 0, 0, 12)), (12, (26, 59, 2, 14, 0, 15)), (15, (43, 0, 0, 0, 0, 0))])]
def tb_X2_hasCount : List (Nat × List (Nat × AMI)) := [
  (19, [(0, (2, 0, 0, 0, 0, 1)), (1, (31, 62, 37, 1, 2, 4)), (4, (2, 0, 0, 0, 0, 5)), (5, (25, 20, 2, 2, 0, 8)), (8, (0, 0, 0, 0, 0, 9)), (9, (22, 0, 0, 0, 0, 10)), (10, (0, 0, 0, 0, 0, 11)), (11, (20, 0, 0, 0, 0, 12)), (12, (0, 268435456, 0, 0, 0, 14)), (14, (16, 7, 3, 21, 0, 17)), (17, (0, 1, 0, 0, 0, 18)), (18, (17, 4, 0, 0, 0, 22))]),
  (23, [(21, (0, 0, 0, 0, 0, 22)), (22, (41, 0, 0, 0, 0, 0))])]
def tb_X2_leastCost : List (Nat × List (Nat × AMI)) := [
  (9, [(0, (2, 0, 0, 0, 0, 1)), (1, (25, 20, 2, 2, 0, 4)), (4, (0, 0, 0, 0, 0, 5)), (5, (22, 0, 0, 0, 0, 6)), (6, (0, 0, 0, 0, 0, 7)), (7, (20, 0, 0, 0, 0, 8)), (8, (40, 0, 0, 0, 0, 0))])]
def tb_X2_offsetOf : List (Nat × List (Nat × AMI)) := [
  (22, [(0, (2, 0, 0, 0, 0, 1)), (1, (25, 45, 2, 10, 0, 4)), (4, (2, 0, 0, 0, 0, 5)), (5, (25, 9, 2, 0, 0, 8)), (8, (25, 66, 0, 3, 0, 11)), (11, (1, 0, 1, 0, 0, 12)), (12, (20, 0, 0, 0, 0, 13)), (13, (20, 0, 0, 0, 0, 14)), (14, (2, 0, 0, 0, 0, 15)), (15, (25, 9, 2, 0, 0, 18)), (18, (25, 71, 0, 4, 0, 21)), (21, (1, 0, 1, 0, 0, 22))]),
  (25, [(22, (20, 0, 0, 0, 0, 23)), (23, (6, 0, 0, 0, 0, 24)), (24, (40, 0, 0, 0, 0, 0))])]
def tb_X2_layersWith : List (Nat × List (Nat × AMI)) := [
  (22, [(0, (0, 0, 0, 0, 0, 1)), (1, (3, 0, 3, 0, 0, 2)), (2, (0, 0, 0, 0, 0, 3)), (3, (3, 0, 4, 0, 0, 5)), (5, (1, 0, 4, 0, 0, 7)), (7, (2, 0, 0, 0, 0, 8)), (8, (25, 9, 2, 0, 0, 11)), (11, (25, 74, 0, 7, 0, 14)), (14, (16, 37, 3, 51, 0, 17)), (17, (2, 0, 0, 0, 0, 18)), (18, (25, 9, 2, 0, 0, 21)), (21, (25, 77, 0, 1, 0, 24))]),
  (46, [(24, (1, 0, 4, 0, 0, 26)), (26, (20, 0, 0, 0, 0, 27)), (27, (1, 0, 1, 0, 0, 28)), (28, (16, 17, 1, 45, 0, 31)), (31, (2, 0, 0, 0, 0, 32)), (32, (25, 39, 2, 8, 0, 35)), (35, (1, 0, 4, 0, 0, 37)), (37, (20, 0, 0, 0, 0, 38)), (38, (1, 0, 2, 0, 0, 39)), (39, (16, 6, 1, 45, 0, 42)), (42, (11, 1, 3, 0, 0, 45)), (45, (11, 1, 4, 0, 0, 48))]),
  (53, [(48, (17, (-43), 0, 0, 0, 5)), (51, (1, 0, 3, 0, 0, 52)), (52, (40, 0, 0, 0, 0, 0))])]
def tb_X2_allMissing : List (Nat × List (Nat × AMI)) := [
  (18, [(0, (0, 0, 0, 0, 0, 1)), (1, (3, 0, 1, 0, 0, 2)), (2, (0, 0, 0, 0, 0, 3)), (3, (3, 0, 2, 0, 0, 4)), (4, (1, 0, 2, 0, 0, 5)), (5, (2, 0, 0, 0, 0, 6)), (6, (25, 9, 2, 0, 0, 9)), (9, (25, 74, 0, 7, 0, 12)), (12, (16, 18, 3, 30, 0, 15)), (15, (1, 0, 1, 0, 0, 16)), (16, (2, 0, 0, 0, 0, 17)), (17, (25, 42, 2, 9, 0, 20))]),
  (32, [(20, (1, 0, 2, 0, 0, 21)), (21, (20, 0, 0, 0, 0, 22)), (22, (5, 0, 0, 0, 0, 23)), (23, (3, 0, 1, 0, 0, 24)), (24, (11, 1, 2, 0, 0, 27)), (27, (17, (-23), 0, 0, 0, 4)), (30, (1, 0, 1, 0, 0, 31)), (31, (40, 0, 0, 0, 0, 0))])]
def tb_X2_allOffsets : List (Nat × List (Nat × AMI)) := [
  (18, [(0, (0, 0, 0, 0, 0, 1)), (1, (3, 0, 1, 0, 0, 2)), (2, (0, 0, 0, 0, 0, 3)), (3, (3, 0, 2, 0, 0, 4)), (4, (1, 0, 2, 0, 0, 5)), (5, (2, 0, 0, 0, 0, 6)), (6, (25, 9, 2, 0, 0, 9)), (9, (25, 80, 0, 8, 0, 12)), (12, (16, 20, 3, 32, 0, 15)), (15, (1, 0, 1, 0, 0, 16)), (16, (2, 0, 0, 0, 0, 17)), (17, (1, 0, 2, 0, 0, 18))]),
  (34, [(18, (31, 83, 25, 2, 2, 21)), (21, (35, 87, 0, 0, 0, 24)), (24, (5, 0, 0, 0, 0, 25)), (25, (3, 0, 1, 0, 0, 26)), (26, (11, 1, 2, 0, 0, 29)), (29, (17, (-25), 0, 0, 0, 4)), (32, (1, 0, 1, 0, 0, 33)), (33, (40, 0, 0, 0, 0, 0))])]
def tb_X2_leastWithoutAsh : List (Nat × List (Nat × AMI)) := [
  (19, [(0, (2, 0, 0, 0, 0, 1)), (1, (31, 92, 38, 1, 2, 4)), (4, (0, 268435456, 0, 0, 0, 6)), (6, (3, 0, 2, 0, 0, 7)), (7, (0, 0, 0, 0, 0, 8)), (8, (3, 0, 3, 0, 0, 9)), (9, (1, 0, 3, 0, 0, 10)), (10, (2, 0, 0, 0, 0, 11)), (11, (25, 48, 2, 11, 0, 14)), (14, (16, 20, 4, 34, 0, 17)), (17, (1, 0, 2, 0, 0, 18)), (18, (2, 0, 0, 0, 0, 19))]),
  (36, [(19, (1, 0, 1, 0, 0, 20)), (20, (1, 0, 3, 0, 0, 21)), (21, (31, 95, 33, 3, 2, 24)), (24, (33, 99, 0, 0, 0, 27)), (27, (3, 0, 2, 0, 0, 28)), (28, (11, 1, 3, 0, 0, 31)), (31, (17, (-22), 0, 0, 0, 9)), (34, (1, 0, 2, 0, 0, 35)), (35, (40, 0, 0, 0, 0, 0))])]
def tb_X2_leastWithAsh : List (Nat × List (Nat × AMI)) := [
  (21, [(0, (2, 0, 0, 0, 0, 1)), (1, (31, 92, 38, 1, 2, 4)), (4, (0, 268435456, 0, 0, 0, 6)), (6, (3, 0, 4, 0, 0, 8)), (8, (2, 0, 0, 0, 0, 9)), (9, (25, 48, 2, 11, 0, 12)), (12, (1, 0, 2, 0, 0, 13)), (13, (1, 0, 3, 0, 0, 14)), (14, (5, 0, 0, 0, 0, 15)), (15, (33, 99, 0, 0, 0, 18)), (18, (3, 0, 5, 0, 0, 20)), (20, (0, 0, 0, 0, 0, 21))]),
  (41, [(21, (1, 0, 2, 0, 0, 22)), (22, (1, 0, 3, 0, 0, 23)), (23, (6, 0, 0, 0, 0, 24)), (24, (34, 102, 0, 0, 0, 27)), (27, (3, 0, 6, 0, 0, 29)), (29, (1, 0, 6, 0, 0, 31)), (31, (1, 0, 5, 0, 0, 33)), (33, (16, 45, 4, 78, 0, 36)), (36, (1, 0, 6, 0, 0, 38)), (38, (1, 0, 2, 0, 0, 39)), (39, (6, 0, 0, 0, 0, 40)), (40, (35, 87, 0, 0, 0, 43))]),
  (62, [(43, (2, 0, 0, 0, 0, 44)), (44, (25, 9, 2, 0, 0, 47)), (47, (25, 105, 0, 6, 0, 50)), (50, (0, 3, 0, 0, 0, 51)), (51, (20, 0, 0, 0, 0, 52)), (52, (7, 0, 0, 0, 0, 53)), (53, (3, 0, 7, 0, 0, 55)), (55, (1, 0, 4, 0, 0, 57)), (57, (2, 0, 0, 0, 0, 58)), (58, (1, 0, 1, 0, 0, 59)), (59, (1, 0, 6, 0, 0, 61)), (61, (31, 95, 33, 3, 2, 64))]),
  (81, [(64, (1, 0, 7, 0, 0, 66)), (66, (5, 0, 0, 0, 0, 67)), (67, (33, 99, 0, 0, 0, 70)), (70, (3, 0, 4, 0, 0, 72)), (72, (11, 1, 6, 0, 0, 75)), (75, (17, (-46), 0, 0, 0, 29)), (78, (1, 0, 4, 0, 0, 80)), (80, (40, 0, 0, 0, 0, 0))])]
def tb_X2_leastAge : List (Nat × List (Nat × AMI)) := [
  (20, [(0, (2, 0, 0, 0, 0, 1)), (1, (31, 92, 38, 1, 2, 4)), (4, (2, 0, 0, 0, 0, 5)), (5, (25, 9, 2, 0, 0, 8)), (8, (1, 0, 1, 0, 0, 9)), (9, (31, 108, 8, 2, 0, 12)), (12, (3, 0, 3, 0, 0, 13)), (13, (0, 0, 0, 0, 0, 14)), (14, (3, 0, 4, 0, 0, 16)), (16, (1, 0, 4, 0, 0, 18)), (18, (2, 0, 0, 0, 0, 19)), (19, (25, 48, 2, 11, 0, 22))]),
  (44, [(22, (16, 34, 4, 56, 0, 25)), (25, (2, 0, 0, 0, 0, 26)), (26, (1, 0, 1, 0, 0, 27)), (27, (1, 0, 4, 0, 0, 29)), (29, (31, 95, 33, 3, 2, 32)), (32, (2, 0, 0, 0, 0, 33)), (33, (25, 9, 2, 0, 0, 36)), (36, (1, 0, 3, 0, 0, 37)), (37, (1, 0, 4, 0, 0, 39)), (39, (31, 111, 16, 3, 0, 42)), (42, (5, 0, 0, 0, 0, 43)), (43, (1, 0, 2, 0, 0, 44))]),
  (59, [(44, (16, 6, 4, 50, 0, 47)), (47, (1, 0, 4, 0, 0, 49)), (49, (40, 0, 0, 0, 0, 0)), (50, (11, 1, 4, 0, 0, 53)), (53, (17, (-37), 0, 0, 0, 16)), (56, (0, (-4), 0, 0, 0, 58)), (58, (40, 0, 0, 0, 0, 0))])]
def tb_X2_greatestAge : List (Nat × List (Nat × AMI)) := [
  (22, [(0, (2, 0, 0, 0, 0, 1)), (1, (31, 92, 38, 1, 2, 4)), (4, (2, 0, 0, 0, 0, 5)), (5, (25, 9, 2, 0, 0, 8)), (8, (1, 0, 1, 0, 0, 9)), (9, (31, 108, 8, 2, 0, 12)), (12, (3, 0, 3, 0, 0, 13)), (13, (2, 0, 0, 0, 0, 14)), (14, (25, 48, 2, 11, 0, 17)), (17, (3, 0, 4, 0, 0, 19)), (19, (1, 0, 4, 0, 0, 21)), (21, (15, 34, 2, 55, 0, 24))]),
  (44, [(24, (2, 0, 0, 0, 0, 25)), (25, (1, 0, 1, 0, 0, 26)), (26, (1, 0, 4, 0, 0, 28)), (28, (31, 95, 33, 3, 2, 31)), (31, (2, 0, 0, 0, 0, 32)), (32, (25, 9, 2, 0, 0, 35)), (35, (1, 0, 3, 0, 0, 36)), (36, (1, 0, 4, 0, 0, 38)), (38, (31, 111, 16, 3, 0, 41)), (41, (5, 0, 0, 0, 0, 42)), (42, (1, 0, 2, 0, 0, 43)), (43, (16, 6, 4, 49, 0, 46))]),
  (58, [(46, (1, 0, 4, 0, 0, 48)), (48, (40, 0, 0, 0, 0, 0)), (49, (11, (-1), 4, 0, 0, 52)), (52, (17, (-33), 0, 0, 0, 19)), (55, (0, (-4), 0, 0, 0, 57)), (57, (40, 0, 0, 0, 0, 0))])]
def tb_X2_costThrough : List (Nat × List (Nat × AMI)) := [
  (16, [(0, (2, 0, 0, 0, 0, 1)), (1, (25, 17, 2, 1, 0, 4)), (4, (1, 0, 1, 0, 0, 5)), (5, (22, 0, 0, 0, 0, 6)), (6, (1, 0, 2, 0, 0, 7)), (7, (20, 0, 0, 0, 0, 8)), (8, (2, 0, 0, 0, 0, 9)), (9, (25, 20, 2, 2, 0, 12)), (12, (1, 0, 1, 0, 0, 13)), (13, (22, 0, 0, 0, 0, 14)), (14, (1, 0, 2, 0, 0, 15)), (15, (20, 0, 0, 0, 0, 16))]),
  (18, [(16, (5, 0, 0, 0, 0, 17)), (17, (40, 0, 0, 0, 0, 0))])]
def tb_X2_numberOfWays : List (Nat × List (Nat × AMI)) := [
  (21, [(0, (2, 0, 0, 0, 0, 1)), (1, (25, 59, 2, 14, 0, 4)), (4, (0, (-1), 0, 0, 0, 5)), (5, (16, 11, 1, 16, 0, 8)), (8, (2, 0, 0, 0, 0, 9)), (9, (2, 0, 0, 0, 0, 10)), (10, (31, 114, 35, 1, 2, 13)), (13, (26, 59, 2, 14, 0, 16)), (16, (2, 0, 0, 0, 0, 17)), (17, (25, 59, 2, 14, 0, 20)), (20, (40, 0, 0, 0, 0, 0))])]
def tb_X2_countWays : List (Nat × List (Nat × AMI)) := [
  (18, [(0, (2, 0, 0, 0, 0, 1)), (1, (2, 0, 0, 0, 0, 2)), (2, (25, 33, 2, 6, 0, 5)), (5, (0, 0, 0, 0, 0, 6)), (6, (31, 118, 39, 3, 2, 9)), (9, (2, 0, 0, 0, 0, 10)), (10, (25, 33, 2, 6, 0, 13)), (13, (0, 0, 0, 0, 0, 14)), (14, (0, 1, 0, 0, 0, 15)), (15, (23, 0, 0, 0, 0, 16)), (16, (0, 0, 0, 0, 0, 17)), (17, (3, 0, 1, 0, 0, 18))]),
  (38, [(18, (1, 0, 1, 0, 0, 19)), (19, (2, 0, 0, 0, 0, 20)), (20, (25, 9, 2, 0, 0, 23)), (23, (25, 74, 0, 7, 0, 26)), (26, (16, 83, 3, 109, 0, 29)), (29, (2, 0, 0, 0, 0, 30)), (30, (1, 0, 1, 0, 0, 31)), (31, (0, 1, 0, 0, 0, 32)), (32, (5, 0, 0, 0, 0, 33)), (33, (2, 0, 0, 0, 0, 34)), (34, (25, 20, 2, 2, 0, 37)), (37, (1, 0, 1, 0, 0, 38))]),
  (56, [(38, (0, 1, 0, 0, 0, 39)), (39, (5, 0, 0, 0, 0, 40)), (40, (22, 0, 0, 0, 0, 41)), (41, (31, 122, 40, 3, 2, 44)), (44, (2, 0, 0, 0, 0, 45)), (45, (2, 0, 0, 0, 0, 46)), (46, (25, 36, 2, 7, 0, 49)), (49, (0, 0, 0, 0, 0, 50)), (50, (31, 118, 39, 3, 2, 53)), (53, (0, 0, 0, 0, 0, 54)), (54, (3, 0, 2, 0, 0, 55)), (55, (1, 0, 2, 0, 0, 56))]),
  (76, [(56, (2, 0, 0, 0, 0, 57)), (57, (25, 48, 2, 11, 0, 60)), (60, (16, 24, 4, 84, 0, 63)), (63, (2, 0, 0, 0, 0, 64)), (64, (25, 33, 2, 6, 0, 67)), (67, (1, 0, 2, 0, 0, 68)), (68, (20, 0, 0, 0, 0, 69)), (69, (15, 9, 5, 78, 0, 72)), (72, (2, 0, 0, 0, 0, 73)), (73, (1, 0, 1, 0, 0, 74)), (74, (1, 0, 2, 0, 0, 75)), (75, (31, 126, 36, 3, 2, 78))]),
  (100, [(78, (11, 1, 2, 0, 0, 81)), (81, (17, (-26), 0, 0, 0, 55)), (84, (2, 0, 0, 0, 0, 85)), (85, (25, 36, 2, 7, 0, 88)), (88, (0, 0, 0, 0, 0, 89)), (89, (2, 0, 0, 0, 0, 90)), (90, (25, 33, 2, 6, 0, 93)), (93, (0, 0, 0, 0, 0, 94)), (94, (2, 0, 0, 0, 0, 95)), (95, (25, 48, 2, 11, 0, 98)), (98, (0, 1, 0, 0, 0, 99)), (99, (5, 0, 0, 0, 0, 100))]),
  (122, [(100, (29, 130, 0, 0, 0, 103)), (103, (11, 1, 1, 0, 0, 106)), (106, (17, (-88), 0, 0, 0, 18)), (109, (0, 0, 0, 0, 0, 110)), (110, (3, 0, 1, 0, 0, 111)), (111, (0, 0, 0, 0, 0, 112)), (112, (3, 0, 2, 0, 0, 113)), (113, (1, 0, 2, 0, 0, 114)), (114, (2, 0, 0, 0, 0, 115)), (115, (25, 48, 2, 11, 0, 118)), (118, (16, 23, 4, 141, 0, 121)), (121, (0, 1000000, 0, 0, 0, 123))]),
  (143, [(123, (1, 0, 1, 0, 0, 124)), (124, (2, 0, 0, 0, 0, 125)), (125, (25, 33, 2, 6, 0, 128)), (128, (1, 0, 2, 0, 0, 129)), (129, (20, 0, 0, 0, 0, 130)), (130, (5, 0, 0, 0, 0, 131)), (131, (33, 99, 0, 0, 0, 134)), (134, (3, 0, 1, 0, 0, 135)), (135, (11, 1, 2, 0, 0, 138)), (138, (17, (-25), 0, 0, 0, 113)), (141, (1, 0, 1, 0, 0, 142)), (142, (40, 0, 0, 0, 0, 0))])]
def tb_X2_handOnWays : List (Nat × List (Nat × AMI)) := [
  (18, [(0, (2, 0, 0, 0, 0, 1)), (1, (25, 20, 2, 2, 0, 4)), (4, (1, 0, 1, 0, 0, 5)), (5, (22, 0, 0, 0, 0, 6)), (6, (1, 0, 2, 0, 0, 7)), (7, (20, 0, 0, 0, 0, 8)), (8, (3, 0, 3, 0, 0, 9)), (9, (2, 0, 0, 0, 0, 10)), (10, (25, 9, 2, 0, 0, 13)), (13, (1, 0, 1, 0, 0, 14)), (14, (31, 137, 11, 2, 0, 17)), (17, (3, 0, 4, 0, 0, 19))]),
  (43, [(19, (1, 0, 4, 0, 0, 21)), (21, (2, 0, 0, 0, 0, 22)), (22, (25, 9, 2, 0, 0, 25)), (25, (1, 0, 1, 0, 0, 26)), (26, (31, 140, 12, 2, 0, 29)), (29, (16, 119, 4, 148, 0, 32)), (32, (2, 0, 0, 0, 0, 33)), (33, (25, 9, 2, 0, 0, 36)), (36, (1, 0, 1, 0, 0, 37)), (37, (1, 0, 4, 0, 0, 39)), (39, (31, 143, 14, 3, 0, 42)), (42, (3, 0, 5, 0, 0, 44))]),
  (63, [(44, (2, 0, 0, 0, 0, 45)), (45, (25, 9, 2, 0, 0, 48)), (48, (25, 146, 0, 2, 0, 51)), (51, (1, 0, 1, 0, 0, 52)), (52, (20, 0, 0, 0, 0, 53)), (53, (2, 0, 0, 0, 0, 54)), (54, (25, 48, 2, 11, 0, 57)), (57, (1, 0, 2, 0, 0, 58)), (58, (6, 0, 0, 0, 0, 59)), (59, (1, 0, 4, 0, 0, 61)), (61, (6, 0, 0, 0, 0, 62)), (62, (33, 99, 0, 0, 0, 65))]),
  (85, [(65, (3, 0, 6, 0, 0, 67)), (67, (0, 0, 0, 0, 0, 68)), (68, (3, 0, 7, 0, 0, 70)), (70, (1, 0, 7, 0, 0, 72)), (72, (1, 0, 6, 0, 0, 74)), (74, (16, 68, 4, 142, 0, 77)), (77, (1, 0, 2, 0, 0, 78)), (78, (1, 0, 4, 0, 0, 80)), (80, (5, 0, 0, 0, 0, 81)), (81, (1, 0, 7, 0, 0, 83)), (83, (5, 0, 0, 0, 0, 84)), (84, (3, 0, 8, 0, 0, 86))]),
  (107, [(86, (1, 0, 5, 0, 0, 88)), (88, (2, 0, 0, 0, 0, 89)), (89, (25, 9, 2, 0, 0, 92)), (92, (1, 0, 7, 0, 0, 94)), (94, (31, 149, 15, 2, 0, 97)), (97, (5, 0, 0, 0, 0, 98)), (98, (2, 0, 0, 0, 0, 99)), (99, (25, 23, 2, 3, 0, 102)), (102, (1, 0, 8, 0, 0, 104)), (104, (20, 0, 0, 0, 0, 105)), (105, (5, 0, 0, 0, 0, 106)), (106, (1, 0, 3, 0, 0, 107))]),
  (130, [(107, (16, 29, 1, 136, 0, 110)), (110, (2, 0, 0, 0, 0, 111)), (111, (25, 36, 2, 7, 0, 114)), (114, (1, 0, 8, 0, 0, 116)), (116, (0, 1000000, 0, 0, 0, 118)), (118, (2, 0, 0, 0, 0, 119)), (119, (25, 36, 2, 7, 0, 122)), (122, (1, 0, 8, 0, 0, 124)), (124, (20, 0, 0, 0, 0, 125)), (125, (2, 0, 0, 0, 0, 126)), (126, (25, 33, 2, 6, 0, 129)), (129, (1, 0, 2, 0, 0, 130))]),
  (149, [(130, (20, 0, 0, 0, 0, 131)), (131, (5, 0, 0, 0, 0, 132)), (132, (33, 99, 0, 0, 0, 135)), (135, (23, 0, 0, 0, 0, 136)), (136, (11, 1, 7, 0, 0, 139)), (139, (17, (-69), 0, 0, 0, 70)), (142, (11, 1, 4, 0, 0, 145)), (145, (17, (-126), 0, 0, 0, 19)), (148, (43, 0, 0, 0, 0, 0))])]
def tb_X2_makeBelow : List (Nat × List (Nat × AMI)) := [
  (18, [(0, (2, 0, 0, 0, 0, 1)), (1, (25, 52, 2, 12, 0, 4)), (4, (15, 4, 0, 8, 0, 7)), (7, (43, 0, 0, 0, 0, 0)), (8, (2, 0, 0, 0, 0, 9)), (9, (0, 0, 0, 0, 0, 10)), (10, (26, 48, 2, 11, 0, 13)), (13, (0, 0, 0, 0, 0, 14)), (14, (3, 0, 1, 0, 0, 15)), (15, (1, 0, 1, 0, 0, 16)), (16, (2, 0, 0, 0, 0, 17)), (17, (25, 9, 2, 0, 0, 20))]),
  (44, [(20, (25, 74, 0, 7, 0, 23)), (23, (16, 32, 3, 55, 0, 26)), (26, (2, 0, 0, 0, 0, 27)), (27, (0, 600, 0, 0, 0, 30)), (30, (2, 0, 0, 0, 0, 31)), (31, (25, 48, 2, 11, 0, 34)), (34, (2, 0, 0, 0, 0, 35)), (35, (25, 9, 2, 0, 0, 38)), (38, (1, 0, 1, 0, 0, 39)), (39, (31, 152, 13, 2, 0, 42)), (42, (5, 0, 0, 0, 0, 43)), (43, (33, 99, 0, 0, 0, 46))]),
  (70, [(46, (26, 48, 2, 11, 0, 49)), (49, (11, 1, 1, 0, 0, 52)), (52, (17, (-37), 0, 0, 0, 15)), (55, (2, 0, 0, 0, 0, 56)), (56, (2, 0, 0, 0, 0, 57)), (57, (25, 20, 2, 2, 0, 60)), (60, (2, 0, 0, 0, 0, 61)), (61, (25, 9, 2, 0, 0, 64)), (64, (25, 74, 0, 7, 0, 67)), (67, (22, 0, 0, 0, 0, 68)), (68, (0, 0, 0, 0, 0, 69)), (69, (31, 118, 39, 3, 2, 72))]),
  (90, [(72, (2, 0, 0, 0, 0, 73)), (73, (25, 9, 2, 0, 0, 76)), (76, (25, 74, 0, 7, 0, 79)), (79, (0, 1, 0, 0, 0, 80)), (80, (6, 0, 0, 0, 0, 81)), (81, (3, 0, 1, 0, 0, 82)), (82, (1, 0, 1, 0, 0, 83)), (83, (15, 42, 2, 125, 0, 86)), (86, (2, 0, 0, 0, 0, 87)), (87, (1, 0, 1, 0, 0, 88)), (88, (0, 1, 0, 0, 0, 89)), (89, (5, 0, 0, 0, 0, 90))]),
  (108, [(90, (2, 0, 0, 0, 0, 91)), (91, (25, 20, 2, 2, 0, 94)), (94, (1, 0, 1, 0, 0, 95)), (95, (0, 1, 0, 0, 0, 96)), (96, (5, 0, 0, 0, 0, 97)), (97, (22, 0, 0, 0, 0, 98)), (98, (31, 122, 40, 3, 2, 101)), (101, (2, 0, 0, 0, 0, 102)), (102, (1, 0, 1, 0, 0, 103)), (103, (0, 0, 0, 0, 0, 104)), (104, (31, 155, 41, 3, 2, 107)), (107, (2, 0, 0, 0, 0, 108))]),
  (130, [(108, (1, 0, 1, 0, 0, 109)), (109, (0, 0, 0, 0, 0, 110)), (110, (2, 0, 0, 0, 0, 111)), (111, (25, 20, 2, 2, 0, 114)), (114, (1, 0, 1, 0, 0, 115)), (115, (22, 0, 0, 0, 0, 116)), (116, (31, 159, 42, 4, 2, 119)), (119, (11, (-1), 1, 0, 0, 122)), (122, (17, (-40), 0, 0, 0, 82)), (125, (2, 0, 0, 0, 0, 126)), (126, (25, 20, 2, 2, 0, 129)), (129, (0, 0, 0, 0, 0, 130))]),
  (148, [(130, (22, 0, 0, 0, 0, 131)), (131, (0, 0, 0, 0, 0, 132)), (132, (20, 0, 0, 0, 0, 133)), (133, (0, 268435456, 0, 0, 0, 135)), (135, (16, 7, 3, 142, 0, 138)), (138, (2, 0, 0, 0, 0, 139)), (139, (31, 163, 44, 1, 2, 142)), (142, (2, 0, 0, 0, 0, 143)), (143, (0, 1, 0, 0, 0, 144)), (144, (27, 52, 2, 12, 0, 147)), (147, (43, 0, 0, 0, 0, 0))])]
def tb_X2_makeAbove : List (Nat × List (Nat × AMI)) := [
  (20, [(0, (2, 0, 0, 0, 0, 1)), (1, (31, 62, 37, 1, 2, 4)), (4, (2, 0, 0, 0, 0, 5)), (5, (25, 56, 2, 13, 0, 8)), (8, (15, 4, 0, 12, 0, 11)), (11, (43, 0, 0, 0, 0, 0)), (12, (2, 0, 0, 0, 0, 13)), (13, (2, 0, 0, 0, 0, 14)), (14, (25, 17, 2, 1, 0, 17)), (17, (0, 0, 0, 0, 0, 18)), (18, (22, 0, 0, 0, 0, 19)), (19, (0, 268435456, 0, 0, 0, 21))]),
  (37, [(21, (31, 118, 39, 3, 2, 24)), (24, (2, 0, 0, 0, 0, 25)), (25, (25, 17, 2, 1, 0, 28)), (28, (0, 0, 0, 0, 0, 29)), (29, (22, 0, 0, 0, 0, 30)), (30, (0, 0, 0, 0, 0, 31)), (31, (0, 0, 0, 0, 0, 32)), (32, (23, 0, 0, 0, 0, 33)), (33, (0, 0, 0, 0, 0, 34)), (34, (3, 0, 1, 0, 0, 35)), (35, (1, 0, 1, 0, 0, 36)), (36, (2, 0, 0, 0, 0, 37))]),
  (59, [(37, (25, 9, 2, 0, 0, 40)), (40, (25, 74, 0, 7, 0, 43)), (43, (16, 40, 3, 83, 0, 46)), (46, (2, 0, 0, 0, 0, 47)), (47, (1, 0, 1, 0, 0, 48)), (48, (2, 0, 0, 0, 0, 49)), (49, (25, 17, 2, 1, 0, 52)), (52, (1, 0, 1, 0, 0, 53)), (53, (22, 0, 0, 0, 0, 54)), (54, (31, 122, 40, 3, 2, 57)), (57, (2, 0, 0, 0, 0, 58)), (58, (1, 0, 1, 0, 0, 59))]),
  (75, [(59, (0, 1, 0, 0, 0, 60)), (60, (31, 155, 41, 3, 2, 63)), (63, (2, 0, 0, 0, 0, 64)), (64, (1, 0, 1, 0, 0, 65)), (65, (0, 1, 0, 0, 0, 66)), (66, (2, 0, 0, 0, 0, 67)), (67, (25, 17, 2, 1, 0, 70)), (70, (1, 0, 1, 0, 0, 71)), (71, (0, 1, 0, 0, 0, 72)), (72, (5, 0, 0, 0, 0, 73)), (73, (22, 0, 0, 0, 0, 74)), (74, (31, 159, 42, 4, 2, 77))]),
  (89, [(77, (11, 1, 1, 0, 0, 80)), (80, (17, (-45), 0, 0, 0, 35)), (83, (2, 0, 0, 0, 0, 84)), (84, (0, 1, 0, 0, 0, 85)), (85, (27, 56, 2, 13, 0, 88)), (88, (43, 0, 0, 0, 0, 0))])]
def tb_X2_clearRow : List (Nat × List (Nat × AMI)) := [
  (18, [(0, (0, 0, 0, 0, 0, 1)), (1, (3, 0, 3, 0, 0, 2)), (2, (1, 0, 3, 0, 0, 3)), (3, (2, 0, 0, 0, 0, 4)), (4, (25, 48, 2, 11, 0, 7)), (7, (16, 13, 4, 20, 0, 10)), (10, (2, 0, 1, 0, 0, 11)), (11, (1, 0, 3, 0, 0, 12)), (12, (1, 0, 2, 0, 0, 13)), (13, (23, 0, 0, 0, 0, 14)), (14, (11, 1, 3, 0, 0, 17)), (17, (17, (-15), 0, 0, 0, 2))]),
  (21, [(20, (43, 0, 0, 0, 0, 0))])]
def tb_X2_addAshCosts : List (Nat × List (Nat × AMI)) := [
  (22, [(0, (2, 0, 0, 0, 0, 1)), (1, (25, 9, 2, 0, 0, 4)), (4, (1, 0, 1, 0, 0, 5)), (5, (31, 108, 8, 2, 0, 8)), (8, (3, 0, 3, 0, 0, 9)), (9, (0, 0, 0, 0, 0, 10)), (10, (3, 0, 4, 0, 0, 12)), (12, (1, 0, 4, 0, 0, 14)), (14, (2, 0, 0, 0, 0, 15)), (15, (25, 48, 2, 11, 0, 18)), (18, (16, 36, 4, 54, 0, 21)), (21, (2, 0, 0, 0, 0, 22))]),
  (44, [(22, (25, 23, 2, 3, 0, 25)), (25, (1, 0, 4, 0, 0, 27)), (27, (0, 268435456, 0, 0, 0, 29)), (29, (2, 0, 2, 0, 0, 30)), (30, (1, 0, 4, 0, 0, 32)), (32, (20, 0, 0, 0, 0, 33)), (33, (2, 0, 0, 0, 0, 34)), (34, (25, 9, 2, 0, 0, 37)), (37, (1, 0, 3, 0, 0, 38)), (38, (1, 0, 4, 0, 0, 40)), (40, (31, 111, 16, 3, 0, 43)), (43, (5, 0, 0, 0, 0, 44))]),
  (55, [(44, (33, 99, 0, 0, 0, 47)), (47, (23, 0, 0, 0, 0, 48)), (48, (11, 1, 4, 0, 0, 51)), (51, (17, (-39), 0, 0, 0, 12)), (54, (43, 0, 0, 0, 0, 0))])]
def tb_X2_addOwnCosts : List (Nat × List (Nat × AMI)) := [
  (21, [(0, (2, 0, 0, 0, 0, 1)), (1, (2, 0, 0, 0, 0, 2)), (2, (25, 27, 2, 4, 0, 5)), (5, (0, 268435456, 0, 0, 0, 7)), (7, (31, 118, 39, 3, 2, 10)), (10, (2, 0, 0, 0, 0, 11)), (11, (25, 9, 2, 0, 0, 14)), (14, (1, 0, 1, 0, 0, 15)), (15, (31, 137, 11, 2, 0, 18)), (18, (3, 0, 3, 0, 0, 19)), (19, (1, 0, 3, 0, 0, 20)), (20, (2, 0, 0, 0, 0, 21))]),
  (44, [(21, (25, 9, 2, 0, 0, 24)), (24, (1, 0, 1, 0, 0, 25)), (25, (31, 140, 12, 2, 0, 28)), (28, (16, 97, 4, 125, 0, 31)), (31, (2, 0, 0, 0, 0, 32)), (32, (25, 9, 2, 0, 0, 35)), (35, (1, 0, 1, 0, 0, 36)), (36, (1, 0, 3, 0, 0, 37)), (37, (31, 143, 14, 3, 0, 40)), (40, (3, 0, 4, 0, 0, 42)), (42, (0, 0, 0, 0, 0, 43)), (43, (3, 0, 5, 0, 0, 45))]),
  (68, [(45, (1, 0, 5, 0, 0, 47)), (47, (1, 0, 3, 0, 0, 48)), (48, (5, 0, 0, 0, 0, 49)), (49, (2, 0, 0, 0, 0, 50)), (50, (25, 48, 2, 11, 0, 53)), (53, (16, 66, 4, 119, 0, 56)), (56, (1, 0, 2, 0, 0, 57)), (57, (15, 8, 0, 65, 0, 60)), (60, (1, 0, 5, 0, 0, 62)), (62, (17, 7, 0, 0, 0, 69)), (65, (1, 0, 5, 0, 0, 67)), (67, (1, 0, 3, 0, 0, 68))]),
  (88, [(68, (5, 0, 0, 0, 0, 69)), (69, (3, 0, 6, 0, 0, 71)), (71, (1, 0, 2, 0, 0, 72)), (72, (15, 10, 0, 82, 0, 75)), (75, (1, 0, 5, 0, 0, 77)), (77, (1, 0, 3, 0, 0, 78)), (78, (5, 0, 0, 0, 0, 79)), (79, (17, 5, 0, 0, 0, 84)), (82, (1, 0, 5, 0, 0, 84)), (84, (3, 0, 7, 0, 0, 86)), (86, (2, 0, 0, 0, 0, 87)), (87, (25, 27, 2, 4, 0, 90))]),
  (110, [(90, (1, 0, 7, 0, 0, 92)), (92, (2, 0, 0, 0, 0, 93)), (93, (25, 27, 2, 4, 0, 96)), (96, (1, 0, 7, 0, 0, 98)), (98, (20, 0, 0, 0, 0, 99)), (99, (2, 0, 0, 0, 0, 100)), (100, (25, 23, 2, 3, 0, 103)), (103, (1, 0, 6, 0, 0, 105)), (105, (20, 0, 0, 0, 0, 106)), (106, (1, 0, 4, 0, 0, 108)), (108, (5, 0, 0, 0, 0, 109)), (109, (33, 99, 0, 0, 0, 112))]),
  (126, [(112, (23, 0, 0, 0, 0, 113)), (113, (11, 1, 5, 0, 0, 116)), (116, (17, (-71), 0, 0, 0, 45)), (119, (11, 1, 3, 0, 0, 122)), (122, (17, (-103), 0, 0, 0, 19)), (125, (43, 0, 0, 0, 0, 0))])]
def tb_X2_addMissingCosts : List (Nat × List (Nat × AMI)) := [
  (20, [(0, (0, 0, 0, 0, 0, 1)), (1, (3, 0, 4, 0, 0, 3)), (3, (0, 0, 0, 0, 0, 4)), (4, (3, 0, 5, 0, 0, 6)), (6, (0, 0, 0, 0, 0, 7)), (7, (3, 0, 6, 0, 0, 9)), (9, (1, 0, 6, 0, 0, 11)), (11, (2, 0, 0, 0, 0, 12)), (12, (25, 48, 2, 11, 0, 15)), (15, (16, 138, 4, 153, 0, 18)), (18, (1, 0, 2, 0, 0, 19)), (19, (15, 8, 0, 27, 0, 22))]),
  (45, [(22, (1, 0, 6, 0, 0, 24)), (24, (17, 10, 0, 0, 0, 34)), (27, (2, 0, 0, 0, 0, 28)), (28, (25, 48, 2, 11, 0, 31)), (31, (1, 0, 6, 0, 0, 33)), (33, (6, 0, 0, 0, 0, 34)), (34, (3, 0, 7, 0, 0, 36)), (36, (1, 0, 5, 0, 0, 38)), (38, (1, 0, 4, 0, 0, 40)), (40, (16, 35, 5, 75, 0, 43)), (43, (2, 0, 0, 0, 0, 44)), (44, (2, 0, 0, 0, 0, 45))]),
  (66, [(45, (25, 30, 2, 5, 0, 48)), (48, (1, 0, 5, 0, 0, 50)), (50, (0, 1, 0, 0, 0, 51)), (51, (6, 0, 0, 0, 0, 52)), (52, (20, 0, 0, 0, 0, 53)), (53, (1, 0, 6, 0, 0, 55)), (55, (1, 0, 2, 0, 0, 56)), (56, (31, 166, 43, 4, 2, 59)), (59, (2, 0, 0, 0, 0, 60)), (60, (25, 27, 2, 4, 0, 63)), (63, (1, 0, 7, 0, 0, 65)), (65, (20, 0, 0, 0, 0, 66))]),
  (92, [(66, (16, 9, 2, 75, 0, 69)), (69, (11, (-1), 5, 0, 0, 72)), (72, (17, (-36), 0, 0, 0, 36)), (75, (2, 0, 0, 0, 0, 76)), (76, (25, 30, 2, 5, 0, 79)), (79, (1, 0, 5, 0, 0, 81)), (81, (1, 0, 6, 0, 0, 83)), (83, (23, 0, 0, 0, 0, 84)), (84, (11, 1, 5, 0, 0, 87)), (87, (1, 0, 4, 0, 0, 89)), (89, (1, 0, 5, 0, 0, 91)), (91, (0, 1, 0, 0, 0, 92))]),
  (114, [(92, (6, 0, 0, 0, 0, 93)), (93, (16, 31, 3, 124, 0, 96)), (96, (2, 0, 0, 0, 0, 97)), (97, (25, 30, 2, 5, 0, 100)), (100, (1, 0, 4, 0, 0, 102)), (102, (20, 0, 0, 0, 0, 103)), (103, (1, 0, 6, 0, 0, 105)), (105, (2, 0, 0, 0, 0, 106)), (106, (25, 9, 2, 0, 0, 109)), (109, (25, 146, 0, 2, 0, 112)), (112, (1, 0, 1, 0, 0, 113)), (113, (20, 0, 0, 0, 0, 114))]),
  (137, [(114, (6, 0, 0, 0, 0, 115)), (115, (16, 9, 3, 124, 0, 118)), (118, (11, 1, 4, 0, 0, 121)), (121, (17, (-34), 0, 0, 0, 87)), (124, (2, 0, 3, 0, 0, 125)), (125, (1, 0, 7, 0, 0, 127)), (127, (0, 268435456, 0, 0, 0, 129)), (129, (2, 0, 0, 0, 0, 130)), (130, (2, 0, 0, 0, 0, 131)), (131, (25, 30, 2, 5, 0, 134)), (134, (1, 0, 4, 0, 0, 136)), (136, (20, 0, 0, 0, 0, 137))]),
  (154, [(137, (1, 0, 6, 0, 0, 139)), (139, (1, 0, 2, 0, 0, 140)), (140, (31, 166, 43, 4, 2, 143)), (143, (33, 99, 0, 0, 0, 146)), (146, (23, 0, 0, 0, 0, 147)), (147, (11, 1, 6, 0, 0, 150)), (150, (17, (-141), 0, 0, 0, 9)), (153, (43, 0, 0, 0, 0, 0))])]
def tb_X2_costFrom : List (Nat × List (Nat × AMI)) := [
  (21, [(0, (1, 0, 3, 0, 0, 1)), (1, (15, 7, 0, 8, 0, 4)), (4, (1, 0, 1, 0, 0, 5)), (5, (17, 9, 0, 0, 0, 14)), (8, (2, 0, 0, 0, 0, 9)), (9, (25, 48, 2, 11, 0, 12)), (12, (1, 0, 1, 0, 0, 13)), (13, (6, 0, 0, 0, 0, 14)), (14, (3, 0, 4, 0, 0, 16)), (16, (2, 0, 0, 0, 0, 17)), (17, (25, 27, 2, 4, 0, 20)), (20, (1, 0, 4, 0, 0, 22))]),
  (35, [(22, (20, 0, 0, 0, 0, 23)), (23, (2, 0, 0, 0, 0, 24)), (24, (25, 9, 2, 0, 0, 27)), (27, (1, 0, 2, 0, 0, 28)), (28, (1, 0, 1, 0, 0, 29)), (29, (6, 0, 0, 0, 0, 30)), (30, (31, 149, 15, 2, 0, 33)), (33, (5, 0, 0, 0, 0, 34)), (34, (40, 0, 0, 0, 0, 0))])]
def tb_X2_followBest : List (Nat × List (Nat × AMI)) := [
  (18, [(0, (2, 0, 0, 0, 0, 1)), (1, (25, 45, 2, 10, 0, 4)), (4, (0, 0, 0, 0, 0, 5)), (5, (0, 0, 0, 0, 0, 6)), (6, (23, 0, 0, 0, 0, 7)), (7, (0, 0, 0, 0, 0, 8)), (8, (3, 0, 1, 0, 0, 9)), (9, (1, 0, 1, 0, 0, 10)), (10, (2, 0, 0, 0, 0, 11)), (11, (25, 9, 2, 0, 0, 14)), (14, (25, 74, 0, 7, 0, 17)), (17, (16, 63, 3, 80, 0, 20))]),
  (36, [(20, (2, 0, 0, 0, 0, 21)), (21, (1, 0, 1, 0, 0, 22)), (22, (0, 1, 0, 0, 0, 23)), (23, (5, 0, 0, 0, 0, 24)), (24, (2, 0, 0, 0, 0, 25)), (25, (25, 20, 2, 2, 0, 28)), (28, (1, 0, 1, 0, 0, 29)), (29, (0, 1, 0, 0, 0, 30)), (30, (5, 0, 0, 0, 0, 31)), (31, (22, 0, 0, 0, 0, 32)), (32, (31, 122, 40, 3, 2, 35)), (35, (2, 0, 0, 0, 0, 36))]),
  (54, [(36, (1, 0, 1, 0, 0, 37)), (37, (2, 0, 0, 0, 0, 38)), (38, (25, 45, 2, 10, 0, 41)), (41, (1, 0, 1, 0, 0, 42)), (42, (20, 0, 0, 0, 0, 43)), (43, (31, 170, 45, 3, 2, 46)), (46, (2, 0, 0, 0, 0, 47)), (47, (25, 45, 2, 10, 0, 50)), (50, (1, 0, 1, 0, 0, 51)), (51, (0, 1, 0, 0, 0, 52)), (52, (5, 0, 0, 0, 0, 53)), (53, (2, 0, 0, 0, 0, 54))]),
  (72, [(54, (25, 45, 2, 10, 0, 57)), (57, (1, 0, 1, 0, 0, 58)), (58, (20, 0, 0, 0, 0, 59)), (59, (2, 0, 0, 0, 0, 60)), (60, (25, 39, 2, 8, 0, 63)), (63, (1, 0, 1, 0, 0, 64)), (64, (20, 0, 0, 0, 0, 65)), (65, (5, 0, 0, 0, 0, 66)), (66, (2, 0, 0, 0, 0, 67)), (67, (25, 42, 2, 9, 0, 70)), (70, (1, 0, 1, 0, 0, 71)), (71, (20, 0, 0, 0, 0, 72))]),
  (81, [(72, (5, 0, 0, 0, 0, 73)), (73, (23, 0, 0, 0, 0, 74)), (74, (11, 1, 1, 0, 0, 77)), (77, (17, (-68), 0, 0, 0, 9)), (80, (43, 0, 0, 0, 0, 0))])]
def tb_X2_chooseYears : List (Nat × List (Nat × AMI)) := [
  (20, [(0, (2, 0, 0, 0, 0, 1)), (1, (25, 9, 2, 0, 0, 4)), (4, (1, 0, 1, 0, 0, 5)), (5, (31, 152, 13, 2, 0, 8)), (8, (2, 0, 0, 0, 0, 9)), (9, (25, 48, 2, 11, 0, 12)), (12, (1, 0, 2, 0, 0, 13)), (13, (6, 0, 0, 0, 0, 14)), (14, (33, 99, 0, 0, 0, 17)), (17, (3, 0, 3, 0, 0, 18)), (18, (2, 0, 0, 0, 0, 19)), (19, (25, 9, 2, 0, 0, 22))]),
  (45, [(22, (1, 0, 1, 0, 0, 23)), (23, (31, 137, 11, 2, 0, 26)), (26, (3, 0, 4, 0, 0, 28)), (28, (1, 0, 4, 0, 0, 30)), (30, (1, 0, 3, 0, 0, 31)), (31, (16, 125, 4, 156, 0, 34)), (34, (2, 0, 0, 0, 0, 35)), (35, (25, 9, 2, 0, 0, 38)), (38, (1, 0, 1, 0, 0, 39)), (39, (31, 137, 11, 2, 0, 42)), (42, (3, 0, 5, 0, 0, 44)), (44, (1, 0, 5, 0, 0, 46))]),
  (69, [(46, (2, 0, 0, 0, 0, 47)), (47, (25, 9, 2, 0, 0, 50)), (50, (1, 0, 1, 0, 0, 51)), (51, (31, 140, 12, 2, 0, 54)), (54, (16, 96, 4, 150, 0, 57)), (57, (1, 0, 4, 0, 0, 59)), (59, (1, 0, 5, 0, 0, 61)), (61, (6, 0, 0, 0, 0, 62)), (62, (3, 0, 6, 0, 0, 64)), (64, (2, 0, 0, 0, 0, 65)), (65, (25, 9, 2, 0, 0, 68)), (68, (1, 0, 1, 0, 0, 69))]),
  (92, [(69, (1, 0, 5, 0, 0, 71)), (71, (31, 143, 14, 3, 0, 74)), (74, (2, 0, 0, 0, 0, 75)), (75, (25, 9, 2, 0, 0, 78)), (78, (1, 0, 6, 0, 0, 80)), (80, (31, 149, 15, 2, 0, 83)), (83, (5, 0, 0, 0, 0, 84)), (84, (2, 0, 0, 0, 0, 85)), (85, (25, 23, 2, 3, 0, 88)), (88, (1, 0, 2, 0, 0, 89)), (89, (1, 0, 4, 0, 0, 91)), (91, (5, 0, 0, 0, 0, 92))]),
  (112, [(92, (20, 0, 0, 0, 0, 93)), (93, (5, 0, 0, 0, 0, 94)), (94, (3, 0, 7, 0, 0, 96)), (96, (1, 0, 6, 0, 0, 98)), (98, (0, 0, 0, 0, 0, 99)), (99, (2, 0, 0, 0, 0, 100)), (100, (25, 9, 2, 0, 0, 103)), (103, (25, 146, 0, 2, 0, 106)), (106, (1, 0, 1, 0, 0, 107)), (107, (20, 0, 0, 0, 0, 108)), (108, (30, 173, 71, 3, 0, 111)), (111, (15, 33, 0, 144, 0, 114))]),
  (133, [(114, (1, 0, 7, 0, 0, 116)), (116, (2, 0, 0, 0, 0, 117)), (117, (25, 20, 2, 2, 0, 120)), (120, (1, 0, 1, 0, 0, 121)), (121, (22, 0, 0, 0, 0, 122)), (122, (1, 0, 2, 0, 0, 123)), (123, (20, 0, 0, 0, 0, 124)), (124, (16, 20, 1, 144, 0, 127)), (127, (2, 0, 0, 0, 0, 128)), (128, (25, 39, 2, 8, 0, 131)), (131, (1, 0, 1, 0, 0, 132)), (132, (1, 0, 5, 0, 0, 134))]),
  (157, [(134, (23, 0, 0, 0, 0, 135)), (135, (2, 0, 0, 0, 0, 136)), (136, (25, 42, 2, 9, 0, 139)), (139, (1, 0, 1, 0, 0, 140)), (140, (1, 0, 6, 0, 0, 142)), (142, (23, 0, 0, 0, 0, 143)), (143, (43, 0, 0, 0, 0, 0)), (144, (11, 1, 5, 0, 0, 147)), (147, (17, (-103), 0, 0, 0, 44)), (150, (11, 1, 4, 0, 0, 153)), (153, (17, (-125), 0, 0, 0, 28)), (156, (43, 0, 0, 0, 0, 0))])]
def tb_X4_addLayer : List (Nat × List (Nat × AMI)) := [
  (23, [(0, (1, 0, 1, 0, 0, 1)), (1, (0, 0, 0, 0, 0, 2)), (2, (2, 0, 0, 0, 0, 3)), (3, (25, 10, 4, 0, 0, 6)), (6, (25, 39, 0, 7, 0, 9)), (9, (32, 43, 71, 3, 4, 12)), (12, (15, 33, 0, 45, 0, 15)), (15, (1, 0, 2, 0, 0, 16)), (16, (0, 1, 0, 0, 0, 17)), (17, (0, 99, 0, 0, 0, 19)), (19, (32, 43, 71, 3, 4, 22)), (22, (15, 23, 0, 45, 0, 25))]),
  (47, [(25, (1, 0, 3, 0, 0, 26)), (26, (0, 0, 0, 0, 0, 27)), (27, (0, 2, 0, 0, 0, 28)), (28, (32, 43, 71, 3, 4, 31)), (31, (15, 14, 0, 45, 0, 34)), (34, (1, 0, 4, 0, 0, 36)), (36, (0, 0, 0, 0, 0, 37)), (37, (0, 20, 0, 0, 0, 39)), (39, (32, 43, 71, 3, 4, 42)), (42, (15, 5, 1, 47, 0, 45)), (45, (0, (-1), 0, 0, 0, 46)), (46, (40, 0, 0, 0, 0, 0))]),
  (71, [(47, (2, 0, 0, 0, 0, 48)), (48, (25, 10, 4, 0, 0, 51)), (51, (25, 39, 0, 7, 0, 54)), (54, (0, 50, 0, 0, 0, 56)), (56, (16, 6, 2, 62, 0, 59)), (59, (0, (-3), 0, 0, 0, 61)), (61, (40, 0, 0, 0, 0, 0)), (62, (2, 0, 0, 0, 0, 63)), (63, (31, 47, 66, 1, 4, 66)), (66, (2, 0, 0, 0, 0, 67)), (67, (25, 10, 4, 0, 0, 70)), (70, (1, 0, 1, 0, 0, 71))]),
  (86, [(71, (1, 0, 2, 0, 0, 72)), (72, (1, 0, 3, 0, 0, 73)), (73, (1, 0, 4, 0, 0, 75)), (75, (31, 50, 4, 5, 0, 78)), (78, (2, 0, 0, 0, 0, 79)), (79, (25, 10, 4, 0, 0, 82)), (82, (25, 39, 0, 7, 0, 85)), (85, (40, 0, 0, 0, 0, 0))])]
def tb_X4_removeLayer : List (Nat × List (Nat × AMI)) := [
  (20, [(0, (2, 0, 0, 0, 0, 1)), (1, (1, 0, 1, 0, 0, 2)), (2, (31, 54, 67, 2, 4, 5)), (5, (15, 5, 1, 10, 0, 8)), (8, (0, (-1), 0, 0, 0, 9)), (9, (40, 0, 0, 0, 0, 0)), (10, (2, 0, 0, 0, 0, 11)), (11, (31, 47, 66, 1, 4, 14)), (14, (2, 0, 0, 0, 0, 15)), (15, (25, 10, 4, 0, 0, 18)), (18, (1, 0, 1, 0, 0, 19)), (19, (31, 58, 5, 2, 0, 22))]),
  (30, [(22, (2, 0, 0, 0, 0, 23)), (23, (25, 10, 4, 0, 0, 26)), (26, (25, 39, 0, 7, 0, 29)), (29, (40, 0, 0, 0, 0, 0))])]
def tb_X4_setLayer : List (Nat × List (Nat × AMI)) := [
  (20, [(0, (2, 0, 0, 0, 0, 1)), (1, (1, 0, 1, 0, 0, 2)), (2, (31, 54, 67, 2, 4, 5)), (5, (15, 27, 0, 32, 0, 8)), (8, (1, 0, 2, 0, 0, 9)), (9, (0, 0, 0, 0, 0, 10)), (10, (0, 2, 0, 0, 0, 11)), (11, (32, 43, 71, 3, 4, 14)), (14, (15, 18, 0, 32, 0, 17)), (17, (1, 0, 3, 0, 0, 18)), (18, (1, 0, 2, 0, 0, 19)), (19, (32, 62, 72, 1, 4, 22))]),
  (45, [(22, (1, 0, 2, 0, 0, 23)), (23, (32, 66, 73, 1, 4, 26)), (26, (32, 43, 71, 3, 4, 29)), (29, (15, 5, 1, 34, 0, 32)), (32, (0, (-1), 0, 0, 0, 33)), (33, (40, 0, 0, 0, 0, 0)), (34, (2, 0, 0, 0, 0, 35)), (35, (25, 10, 4, 0, 0, 38)), (38, (1, 0, 2, 0, 0, 39)), (39, (31, 69, 2, 2, 0, 42)), (42, (4, 0, 4, 0, 0, 44)), (44, (2, 0, 4, 0, 0, 46))]),
  (62, [(46, (1, 0, 1, 0, 0, 47)), (47, (20, 0, 0, 0, 0, 48)), (48, (3, 0, 5, 0, 0, 50)), (50, (2, 0, 0, 0, 0, 51)), (51, (31, 47, 66, 1, 4, 54)), (54, (2, 0, 4, 0, 0, 56)), (56, (1, 0, 1, 0, 0, 57)), (57, (1, 0, 3, 0, 0, 58)), (58, (23, 0, 0, 0, 0, 59)), (59, (1, 0, 5, 0, 0, 61)), (61, (40, 0, 0, 0, 0, 0))])]
def tb_X4_addAsh : List (Nat × List (Nat × AMI)) := [
  (18, [(0, (2, 0, 0, 0, 0, 1)), (1, (1, 0, 1, 0, 0, 2)), (2, (1, 0, 2, 0, 0, 3)), (3, (1, 0, 3, 0, 0, 4)), (4, (31, 73, 70, 4, 4, 7)), (7, (15, 5, 1, 12, 0, 10)), (10, (0, (-1), 0, 0, 0, 11)), (11, (40, 0, 0, 0, 0, 0)), (12, (2, 0, 0, 0, 0, 13)), (13, (25, 10, 4, 0, 0, 16)), (16, (1, 0, 1, 0, 0, 17)), (17, (31, 76, 8, 2, 0, 20))]),
  (43, [(20, (0, (-1), 0, 0, 0, 21)), (21, (16, 6, 0, 27, 0, 24)), (24, (0, (-2), 0, 0, 0, 26)), (26, (40, 0, 0, 0, 0, 0)), (27, (2, 0, 0, 0, 0, 28)), (28, (25, 10, 4, 0, 0, 31)), (31, (25, 79, 0, 8, 0, 34)), (34, (0, 6, 0, 0, 0, 36)), (36, (16, 6, 2, 42, 0, 39)), (39, (0, (-3), 0, 0, 0, 41)), (41, (40, 0, 0, 0, 0, 0)), (42, (2, 0, 0, 0, 0, 43))]),
  (57, [(43, (31, 47, 66, 1, 4, 46)), (46, (2, 0, 0, 0, 0, 47)), (47, (25, 10, 4, 0, 0, 50)), (50, (1, 0, 1, 0, 0, 51)), (51, (1, 0, 2, 0, 0, 52)), (52, (1, 0, 3, 0, 0, 53)), (53, (31, 82, 6, 4, 0, 56)), (56, (40, 0, 0, 0, 0, 0))])]
def tb_X4_removeAsh : List (Nat × List (Nat × AMI)) := [
  (20, [(0, (2, 0, 0, 0, 0, 1)), (1, (1, 0, 1, 0, 0, 2)), (2, (31, 86, 69, 2, 4, 5)), (5, (15, 5, 1, 10, 0, 8)), (8, (0, (-1), 0, 0, 0, 9)), (9, (40, 0, 0, 0, 0, 0)), (10, (2, 0, 0, 0, 0, 11)), (11, (31, 47, 66, 1, 4, 14)), (14, (2, 0, 0, 0, 0, 15)), (15, (25, 10, 4, 0, 0, 18)), (18, (1, 0, 1, 0, 0, 19)), (19, (31, 89, 7, 2, 0, 22))]),
  (30, [(22, (2, 0, 0, 0, 0, 23)), (23, (25, 10, 4, 0, 0, 26)), (26, (25, 79, 0, 8, 0, 29)), (29, (40, 0, 0, 0, 0, 0))])]
def tb_X4_set : List (Nat × List (Nat × AMI)) := [
  (21, [(0, (1, 0, 1, 0, 0, 1)), (1, (0, 0, 0, 0, 0, 2)), (2, (0, 3, 0, 0, 0, 3)), (3, (32, 43, 71, 3, 4, 6)), (6, (15, 13, 0, 19, 0, 9)), (9, (1, 0, 2, 0, 0, 10)), (10, (0, 0, 0, 0, 0, 11)), (11, (0, 50, 0, 0, 0, 13)), (13, (32, 43, 71, 3, 4, 16)), (16, (15, 5, 1, 21, 0, 19)), (19, (0, (-1), 0, 0, 0, 20)), (20, (40, 0, 0, 0, 0, 0))]),
  (43, [(21, (2, 0, 0, 0, 0, 22)), (22, (25, 10, 4, 0, 0, 25)), (25, (25, 92, 0, 6, 0, 28)), (28, (1, 0, 1, 0, 0, 29)), (29, (20, 0, 0, 0, 0, 30)), (30, (3, 0, 3, 0, 0, 31)), (31, (2, 0, 0, 0, 0, 32)), (32, (31, 47, 66, 1, 4, 35)), (35, (2, 0, 0, 0, 0, 36)), (36, (25, 10, 4, 0, 0, 39)), (39, (25, 92, 0, 6, 0, 42)), (42, (1, 0, 1, 0, 0, 43))]),
  (47, [(43, (1, 0, 2, 0, 0, 44)), (44, (23, 0, 0, 0, 0, 45)), (45, (1, 0, 3, 0, 0, 46)), (46, (40, 0, 0, 0, 0, 0))])]
def tb_X4_undo : List (Nat × List (Nat × AMI)) := [
  (25, [(0, (2, 0, 0, 0, 0, 1)), (1, (25, 19, 4, 1, 0, 4)), (4, (25, 106, 1, 2, 0, 7)), (7, (15, 6, 1, 13, 0, 10)), (10, (0, (-2), 0, 0, 0, 12)), (12, (40, 0, 0, 0, 0, 0)), (13, (2, 0, 0, 0, 0, 14)), (14, (25, 19, 4, 1, 0, 17)), (17, (2, 0, 0, 0, 0, 18)), (18, (25, 10, 4, 0, 0, 21)), (21, (31, 109, 21, 2, 1, 24)), (24, (2, 0, 0, 0, 0, 25))]),
  (39, [(25, (25, 35, 4, 3, 0, 28)), (28, (31, 112, 22, 1, 2, 31)), (31, (2, 0, 0, 0, 0, 32)), (32, (25, 19, 4, 1, 0, 35)), (35, (25, 106, 1, 2, 0, 38)), (38, (40, 0, 0, 0, 0, 0))])]
def tb_X4_count : List (Nat × List (Nat × AMI)) := [
  (74, [(0, (1, 0, 1, 0, 0, 1)), (1, (18, 0, 0, 0, 0, 0)), (56, (2, 0, 0, 0, 0, 57)), (57, (25, 10, 4, 0, 0, 60)), (60, (25, 39, 0, 7, 0, 63)), (63, (40, 0, 0, 0, 0, 0)), (64, (2, 0, 0, 0, 0, 65)), (65, (25, 10, 4, 0, 0, 68)), (68, (25, 79, 0, 8, 0, 71)), (71, (40, 0, 0, 0, 0, 0)), (72, (2, 0, 0, 0, 0, 73)), (73, (25, 10, 4, 0, 0, 76))]),
  (98, [(76, (0, 0, 0, 0, 0, 77)), (77, (2, 0, 0, 0, 0, 78)), (78, (25, 10, 4, 0, 0, 81)), (81, (25, 39, 0, 7, 0, 84)), (84, (31, 115, 9, 3, 0, 87)), (87, (40, 0, 0, 0, 0, 0)), (88, (2, 0, 0, 0, 0, 89)), (89, (25, 10, 4, 0, 0, 92)), (92, (0, 1, 0, 0, 0, 93)), (93, (31, 119, 10, 2, 0, 96)), (96, (40, 0, 0, 0, 0, 0)), (97, (2, 0, 0, 0, 0, 98))]),
  (118, [(98, (25, 10, 4, 0, 0, 101)), (101, (0, 2, 0, 0, 0, 102)), (102, (31, 119, 10, 2, 0, 105)), (105, (40, 0, 0, 0, 0, 0)), (106, (2, 0, 0, 0, 0, 107)), (107, (25, 10, 4, 0, 0, 110)), (110, (25, 92, 0, 6, 0, 113)), (113, (0, 0, 0, 0, 0, 114)), (114, (20, 0, 0, 0, 0, 115)), (115, (40, 0, 0, 0, 0, 0)), (116, (2, 0, 0, 0, 0, 117)), (117, (25, 10, 4, 0, 0, 120))]),
  (138, [(120, (25, 92, 0, 6, 0, 123)), (123, (0, 1, 0, 0, 0, 124)), (124, (20, 0, 0, 0, 0, 125)), (125, (40, 0, 0, 0, 0, 0)), (126, (2, 0, 0, 0, 0, 127)), (127, (25, 10, 4, 0, 0, 130)), (130, (25, 92, 0, 6, 0, 133)), (133, (0, 2, 0, 0, 0, 134)), (134, (20, 0, 0, 0, 0, 135)), (135, (40, 0, 0, 0, 0, 0)), (136, (2, 0, 0, 0, 0, 137)), (137, (25, 10, 4, 0, 0, 140))]),
  (156, [(140, (25, 92, 0, 6, 0, 143)), (143, (0, 3, 0, 0, 0, 144)), (144, (20, 0, 0, 0, 0, 145)), (145, (40, 0, 0, 0, 0, 0)), (146, (2, 0, 0, 0, 0, 147)), (147, (25, 19, 4, 1, 0, 150)), (150, (25, 106, 1, 2, 0, 153)), (153, (40, 0, 0, 0, 0, 0)), (154, (0, (-1), 0, 0, 0, 155)), (155, (40, 0, 0, 0, 0, 0))])]
def tb_X4_layer : List (Nat × List (Nat × AMI)) := [
  (20, [(0, (2, 0, 0, 0, 0, 1)), (1, (1, 0, 1, 0, 0, 2)), (2, (31, 54, 67, 2, 4, 5)), (5, (15, 12, 0, 17, 0, 8)), (8, (1, 0, 2, 0, 0, 9)), (9, (0, 0, 0, 0, 0, 10)), (10, (0, 2, 0, 0, 0, 11)), (11, (32, 43, 71, 3, 4, 14)), (14, (15, 5, 1, 19, 0, 17)), (17, (0, (-1), 0, 0, 0, 18)), (18, (40, 0, 0, 0, 0, 0)), (19, (2, 0, 0, 0, 0, 20))]),
  (30, [(20, (25, 10, 4, 0, 0, 23)), (23, (1, 0, 2, 0, 0, 24)), (24, (31, 69, 2, 2, 0, 27)), (27, (1, 0, 1, 0, 0, 28)), (28, (20, 0, 0, 0, 0, 29)), (29, (40, 0, 0, 0, 0, 0))])]
def tb_X4_ash : List (Nat × List (Nat × AMI)) := [
  (20, [(0, (2, 0, 0, 0, 0, 1)), (1, (1, 0, 1, 0, 0, 2)), (2, (31, 86, 69, 2, 4, 5)), (5, (15, 12, 0, 17, 0, 8)), (8, (1, 0, 2, 0, 0, 9)), (9, (0, 0, 0, 0, 0, 10)), (10, (0, 2, 0, 0, 0, 11)), (11, (32, 43, 71, 3, 4, 14)), (14, (15, 5, 1, 19, 0, 17)), (17, (0, (-1), 0, 0, 0, 18)), (18, (40, 0, 0, 0, 0, 0)), (19, (2, 0, 0, 0, 0, 20))]),
  (30, [(20, (25, 10, 4, 0, 0, 23)), (23, (1, 0, 2, 0, 0, 24)), (24, (31, 122, 3, 2, 0, 27)), (27, (1, 0, 1, 0, 0, 28)), (28, (20, 0, 0, 0, 0, 29)), (29, (40, 0, 0, 0, 0, 0))])]
def tb_X4_cost : List (Nat × List (Nat × AMI)) := [
  (21, [(0, (2, 0, 0, 0, 0, 1)), (1, (25, 35, 4, 3, 0, 4)), (4, (31, 125, 23, 1, 2, 7)), (7, (15, 6, 1, 13, 0, 10)), (10, (0, (-4), 0, 0, 0, 12)), (12, (40, 0, 0, 0, 0, 0)), (13, (2, 0, 0, 0, 0, 14)), (14, (25, 35, 4, 3, 0, 17)), (17, (31, 129, 24, 1, 2, 20)), (20, (40, 0, 0, 0, 0, 0))])]
def tb_X4_years : List (Nat × List (Nat × AMI)) := [
  (20, [(0, (2, 0, 0, 0, 0, 1)), (1, (1, 0, 1, 0, 0, 2)), (2, (31, 54, 67, 2, 4, 5)), (5, (15, 12, 0, 17, 0, 8)), (8, (1, 0, 2, 0, 0, 9)), (9, (0, 0, 0, 0, 0, 10)), (10, (0, 1, 0, 0, 0, 11)), (11, (32, 43, 71, 3, 4, 14)), (14, (15, 5, 1, 19, 0, 17)), (17, (0, (-1), 0, 0, 0, 18)), (18, (40, 0, 0, 0, 0, 0)), (19, (2, 0, 0, 0, 0, 20))]),
  (45, [(20, (25, 35, 4, 3, 0, 23)), (23, (31, 125, 23, 1, 2, 26)), (26, (15, 6, 1, 32, 0, 29)), (29, (0, (-4), 0, 0, 0, 31)), (31, (40, 0, 0, 0, 0, 0)), (32, (1, 0, 2, 0, 0, 33)), (33, (15, 15, 1, 48, 0, 36)), (36, (2, 0, 0, 0, 0, 37)), (37, (25, 35, 4, 3, 0, 40)), (40, (25, 132, 2, 8, 0, 43)), (43, (1, 0, 1, 0, 0, 44)), (44, (20, 0, 0, 0, 0, 45))]),
  (58, [(45, (17, 12, 0, 0, 0, 57)), (48, (2, 0, 0, 0, 0, 49)), (49, (25, 35, 4, 3, 0, 52)), (52, (25, 135, 2, 9, 0, 55)), (55, (1, 0, 1, 0, 0, 56)), (56, (20, 0, 0, 0, 0, 57)), (57, (40, 0, 0, 0, 0, 0))])]
def tb_X4_age : List (Nat × List (Nat × AMI)) := [
  (23, [(0, (2, 0, 0, 0, 0, 1)), (1, (1, 0, 1, 0, 0, 2)), (2, (31, 138, 68, 2, 4, 5)), (5, (15, 5, 1, 10, 0, 8)), (8, (0, (-1), 0, 0, 0, 9)), (9, (40, 0, 0, 0, 0, 0)), (10, (2, 0, 0, 0, 0, 11)), (11, (25, 35, 4, 3, 0, 14)), (14, (31, 125, 23, 1, 2, 17)), (17, (15, 6, 1, 23, 0, 20)), (20, (0, (-4), 0, 0, 0, 22)), (22, (40, 0, 0, 0, 0, 0))]),
  (33, [(23, (2, 0, 0, 0, 0, 24)), (24, (25, 35, 4, 3, 0, 27)), (27, (25, 141, 2, 10, 0, 30)), (30, (1, 0, 1, 0, 0, 31)), (31, (20, 0, 0, 0, 0, 32)), (32, (40, 0, 0, 0, 0, 0))])]
def tb_X4_offset : List (Nat × List (Nat × AMI)) := [
  (23, [(0, (2, 0, 0, 0, 0, 1)), (1, (1, 0, 1, 0, 0, 2)), (2, (31, 86, 69, 2, 4, 5)), (5, (15, 5, 1, 10, 0, 8)), (8, (0, (-1), 0, 0, 0, 9)), (9, (40, 0, 0, 0, 0, 0)), (10, (2, 0, 0, 0, 0, 11)), (11, (25, 35, 4, 3, 0, 14)), (14, (31, 125, 23, 1, 2, 17)), (17, (15, 6, 1, 23, 0, 20)), (20, (0, (-4), 0, 0, 0, 22)), (22, (40, 0, 0, 0, 0, 0))]),
  (35, [(23, (0, 100, 0, 0, 0, 25)), (25, (2, 0, 0, 0, 0, 26)), (26, (25, 35, 4, 3, 0, 29)), (29, (1, 0, 1, 0, 0, 30)), (30, (31, 144, 25, 2, 2, 33)), (33, (5, 0, 0, 0, 0, 34)), (34, (40, 0, 0, 0, 0, 0))])]
def tb_X4_total : List (Nat × List (Nat × AMI)) := [
  (22, [(0, (1, 0, 1, 0, 0, 1)), (1, (0, 0, 0, 0, 0, 2)), (2, (0, 4, 0, 0, 0, 3)), (3, (32, 43, 71, 3, 4, 6)), (6, (15, 5, 1, 11, 0, 9)), (9, (0, (-1), 0, 0, 0, 10)), (10, (40, 0, 0, 0, 0, 0)), (11, (2, 0, 0, 0, 0, 12)), (12, (25, 35, 4, 3, 0, 15)), (15, (31, 125, 23, 1, 2, 18)), (18, (15, 6, 1, 24, 0, 21)), (21, (0, (-4), 0, 0, 0, 23))]),
  (71, [(23, (40, 0, 0, 0, 0, 0)), (24, (1, 0, 1, 0, 0, 25)), (25, (18, 0, 1, 0, 0, 0)), (56, (2, 0, 0, 0, 0, 57)), (57, (25, 35, 4, 3, 0, 60)), (60, (0, 1, 0, 0, 0, 61)), (61, (0, 0, 0, 0, 0, 62)), (62, (31, 147, 26, 3, 2, 65)), (65, (40, 0, 0, 0, 0, 0)), (66, (2, 0, 0, 0, 0, 67)), (67, (25, 35, 4, 3, 0, 70)), (70, (0, 2, 0, 0, 0, 71))]),
  (93, [(71, (0, 2, 0, 0, 0, 72)), (72, (31, 147, 26, 3, 2, 75)), (75, (40, 0, 0, 0, 0, 0)), (76, (2, 0, 0, 0, 0, 77)), (77, (25, 35, 4, 3, 0, 80)), (80, (31, 150, 27, 1, 2, 83)), (83, (40, 0, 0, 0, 0, 0)), (84, (2, 0, 0, 0, 0, 85)), (85, (25, 35, 4, 3, 0, 88)), (88, (31, 153, 28, 1, 2, 91)), (91, (40, 0, 0, 0, 0, 0)), (92, (2, 0, 0, 0, 0, 93))]),
  (108, [(93, (25, 35, 4, 3, 0, 96)), (96, (25, 141, 2, 10, 0, 99)), (99, (2, 0, 0, 0, 0, 100)), (100, (25, 10, 4, 0, 0, 103)), (103, (25, 39, 0, 7, 0, 106)), (106, (20, 0, 0, 0, 0, 107)), (107, (40, 0, 0, 0, 0, 0))])]
def tb_X4_ways : List (Nat × List (Nat × AMI)) := [
  (20, [(0, (2, 0, 0, 0, 0, 1)), (1, (25, 35, 4, 3, 0, 4)), (4, (31, 125, 23, 1, 2, 7)), (7, (15, 5, 1, 12, 0, 10)), (10, (0, 0, 0, 0, 0, 11)), (11, (40, 0, 0, 0, 0, 0)), (12, (2, 0, 0, 0, 0, 13)), (13, (25, 35, 4, 3, 0, 16)), (16, (31, 156, 34, 1, 2, 19)), (19, (40, 0, 0, 0, 0, 0))])]
def tb_X4_bound : List (Nat × List (Nat × AMI)) := [
  (22, [(0, (2, 0, 0, 0, 0, 1)), (1, (1, 0, 1, 0, 0, 2)), (2, (31, 138, 68, 2, 4, 5)), (5, (15, 23, 0, 28, 0, 8)), (8, (1, 0, 2, 0, 0, 9)), (9, (0, 0, 0, 0, 0, 10)), (10, (0, 200, 0, 0, 0, 13)), (13, (32, 43, 71, 3, 4, 16)), (16, (15, 12, 0, 28, 0, 19)), (19, (1, 0, 3, 0, 0, 20)), (20, (0, 0, 0, 0, 0, 21)), (21, (0, 1, 0, 0, 0, 22))]),
  (45, [(22, (32, 43, 71, 3, 4, 25)), (25, (15, 5, 1, 30, 0, 28)), (28, (0, (-1), 0, 0, 0, 29)), (29, (40, 0, 0, 0, 0, 0)), (30, (2, 0, 0, 0, 0, 31)), (31, (25, 35, 4, 3, 0, 34)), (34, (31, 125, 23, 1, 2, 37)), (37, (15, 6, 1, 43, 0, 40)), (40, (0, (-4), 0, 0, 0, 42)), (42, (40, 0, 0, 0, 0, 0)), (43, (2, 0, 0, 0, 0, 44)), (44, (25, 35, 4, 3, 0, 47))]),
  (69, [(47, (31, 129, 24, 1, 2, 50)), (50, (1, 0, 2, 0, 0, 51)), (51, (5, 0, 0, 0, 0, 52)), (52, (3, 0, 4, 0, 0, 54)), (54, (1, 0, 3, 0, 0, 55)), (55, (15, 16, 1, 71, 0, 58)), (58, (2, 0, 0, 0, 0, 59)), (59, (25, 35, 4, 3, 0, 62)), (62, (1, 0, 1, 0, 0, 63)), (63, (1, 0, 4, 0, 0, 65)), (65, (31, 162, 31, 3, 2, 68)), (68, (17, 13, 0, 0, 0, 81))]),
  (82, [(71, (2, 0, 0, 0, 0, 72)), (72, (25, 35, 4, 3, 0, 75)), (75, (1, 0, 1, 0, 0, 76)), (76, (1, 0, 4, 0, 0, 78)), (78, (31, 165, 32, 3, 2, 81)), (81, (40, 0, 0, 0, 0, 0))])]
def tb_X4_without : List (Nat × List (Nat × AMI)) := [
  (22, [(0, (2, 0, 0, 0, 0, 1)), (1, (1, 0, 1, 0, 0, 2)), (2, (31, 86, 69, 2, 4, 5)), (5, (15, 5, 1, 10, 0, 8)), (8, (0, (-1), 0, 0, 0, 9)), (9, (40, 0, 0, 0, 0, 0)), (10, (2, 0, 0, 0, 0, 11)), (11, (25, 35, 4, 3, 0, 14)), (14, (2, 0, 0, 0, 0, 15)), (15, (25, 10, 4, 0, 0, 18)), (18, (25, 168, 0, 3, 0, 21)), (21, (1, 0, 1, 0, 0, 22))]),
  (30, [(22, (20, 0, 0, 0, 0, 23)), (23, (31, 171, 29, 2, 2, 26)), (26, (32, 174, 74, 1, 4, 29)), (29, (40, 0, 0, 0, 0, 0))])]
def tb_X4_widen : List (Nat × List (Nat × AMI)) := [
  (18, [(0, (0, 0, 0, 0, 0, 1)), (1, (3, 0, 1, 0, 0, 2)), (2, (0, 256, 0, 0, 0, 5)), (5, (3, 0, 2, 0, 0, 6)), (6, (1, 0, 2, 0, 0, 7)), (7, (15, 29, 5, 36, 0, 10)), (10, (2, 0, 0, 0, 0, 11)), (11, (25, 10, 4, 0, 0, 14)), (14, (1, 0, 1, 0, 0, 15)), (15, (1, 0, 2, 0, 0, 16)), (16, (5, 0, 0, 0, 0, 17)), (17, (0, 1, 0, 0, 0, 18))]),
  (34, [(18, (6, 0, 0, 0, 0, 19)), (19, (31, 177, 17, 2, 0, 22)), (22, (15, 7, 1, 29, 0, 25)), (25, (1, 0, 1, 0, 0, 26)), (26, (1, 0, 2, 0, 0, 27)), (27, (5, 0, 0, 0, 0, 28)), (28, (3, 0, 1, 0, 0, 29)), (29, (1, 0, 2, 0, 0, 30)), (30, (0, 2, 0, 0, 0, 31)), (31, (8, 0, 0, 0, 0, 32)), (32, (3, 0, 2, 0, 0, 33)), (33, (17, (-27), 0, 0, 0, 6))]),
  (38, [(36, (1, 0, 1, 0, 0, 37)), (37, (40, 0, 0, 0, 0, 0))])]
def tb_X4_costWith : List (Nat × List (Nat × AMI)) := [
  (18, [(0, (2, 0, 0, 0, 0, 1)), (1, (1, 0, 1, 0, 0, 2)), (2, (1, 0, 2, 0, 0, 3)), (3, (1, 0, 3, 0, 0, 4)), (4, (31, 73, 70, 4, 4, 7)), (7, (15, 5, 1, 12, 0, 10)), (10, (0, (-1), 0, 0, 0, 11)), (11, (40, 0, 0, 0, 0, 0)), (12, (2, 0, 0, 0, 0, 13)), (13, (25, 10, 4, 0, 0, 16)), (16, (1, 0, 1, 0, 0, 17)), (17, (31, 76, 8, 2, 0, 20))]),
  (41, [(20, (0, (-1), 0, 0, 0, 21)), (21, (16, 6, 0, 27, 0, 24)), (24, (0, (-2), 0, 0, 0, 26)), (26, (40, 0, 0, 0, 0, 0)), (27, (2, 0, 0, 0, 0, 28)), (28, (25, 35, 4, 3, 0, 31)), (31, (1, 0, 1, 0, 0, 32)), (32, (1, 0, 2, 0, 0, 33)), (33, (1, 0, 3, 0, 0, 34)), (34, (31, 180, 30, 4, 2, 37)), (37, (32, 174, 74, 1, 4, 40)), (40, (40, 0, 0, 0, 0, 0))])]
def tb_X4_beginChange : List (Nat × List (Nat × AMI)) := [
  (19, [(0, (2, 0, 0, 0, 0, 1)), (1, (25, 19, 4, 1, 0, 4)), (4, (2, 0, 0, 0, 0, 5)), (5, (25, 10, 4, 0, 0, 8)), (8, (31, 190, 20, 2, 1, 11)), (11, (2, 0, 0, 0, 0, 12)), (12, (25, 35, 4, 3, 0, 15)), (15, (31, 112, 22, 1, 2, 18)), (18, (43, 0, 0, 0, 0, 0))])]
def tb_X4_isLayer : List (Nat × List (Nat × AMI)) := [
  (15, [(0, (1, 0, 1, 0, 0, 1)), (1, (0, 0, 0, 0, 0, 2)), (2, (2, 0, 0, 0, 0, 3)), (3, (25, 10, 4, 0, 0, 6)), (6, (25, 39, 0, 7, 0, 9)), (9, (0, 1, 0, 0, 0, 10)), (10, (6, 0, 0, 0, 0, 11)), (11, (32, 43, 71, 3, 4, 14)), (14, (41, 0, 0, 0, 0, 0))])]
def tb_X4_isPlace : List (Nat × List (Nat × AMI)) := [
  (13, [(0, (1, 0, 1, 0, 0, 1)), (1, (0, 0, 0, 0, 0, 2)), (2, (2, 0, 0, 0, 0, 3)), (3, (25, 10, 4, 0, 0, 6)), (6, (25, 39, 0, 7, 0, 9)), (9, (32, 43, 71, 3, 4, 12)), (12, (41, 0, 0, 0, 0, 0))])]
def tb_X4_isAsh : List (Nat × List (Nat × AMI)) := [
  (15, [(0, (1, 0, 1, 0, 0, 1)), (1, (0, 0, 0, 0, 0, 2)), (2, (2, 0, 0, 0, 0, 3)), (3, (25, 10, 4, 0, 0, 6)), (6, (25, 79, 0, 8, 0, 9)), (9, (0, 1, 0, 0, 0, 10)), (10, (6, 0, 0, 0, 0, 11)), (11, (32, 43, 71, 3, 4, 14)), (14, (41, 0, 0, 0, 0, 0))])]
def tb_X4_isAshOfRange : List (Nat × List (Nat × AMI)) := [
  (24, [(0, (1, 0, 1, 0, 0, 1)), (1, (0, 1, 0, 0, 0, 2)), (2, (2, 0, 0, 0, 0, 3)), (3, (25, 10, 4, 0, 0, 6)), (6, (25, 39, 0, 7, 0, 9)), (9, (32, 43, 71, 3, 4, 12)), (12, (15, 28, 0, 40, 0, 15)), (15, (1, 0, 2, 0, 0, 16)), (16, (0, 0, 0, 0, 0, 17)), (17, (0, 500, 0, 0, 0, 20)), (20, (32, 43, 71, 3, 4, 23)), (23, (15, 17, 0, 40, 0, 26))]),
  (42, [(26, (1, 0, 3, 0, 0, 27)), (27, (0, 0, 0, 0, 0, 28)), (28, (0, 9, 0, 0, 0, 30)), (30, (32, 43, 71, 3, 4, 33)), (33, (15, 7, 0, 40, 0, 36)), (36, (0, 1, 0, 0, 0, 37)), (37, (17, 4, 0, 0, 0, 41)), (40, (0, 0, 0, 0, 0, 41)), (41, (41, 0, 0, 0, 0, 0))])]
def tb_X4_isWithin : List (Nat × List (Nat × AMI)) := [
  (16, [(0, (1, 0, 0, 0, 0, 1)), (1, (1, 0, 1, 0, 0, 2)), (2, (16, 12, 2, 14, 0, 5)), (5, (1, 0, 0, 0, 0, 6)), (6, (1, 0, 2, 0, 0, 7)), (7, (16, 7, 4, 14, 0, 10)), (10, (0, 1, 0, 0, 0, 11)), (11, (17, 4, 0, 0, 0, 15)), (14, (0, 0, 0, 0, 0, 15)), (15, (41, 0, 0, 0, 0, 0))])]
def tb_X4_leastProperty : List (Nat × List (Nat × AMI)) := [
  (10, [(0, (1, 0, 0, 0, 0, 1)), (1, (15, 7, 1, 8, 0, 4)), (4, (0, 1, 0, 0, 0, 5)), (5, (17, 4, 0, 0, 0, 9)), (8, (0, 0, 0, 0, 0, 9)), (9, (40, 0, 0, 0, 0, 0))])]
def tb_X4_mostProperty : List (Nat × List (Nat × AMI)) := [
  (19, [(0, (1, 0, 0, 0, 0, 1)), (1, (15, 6, 1, 7, 0, 4)), (4, (0, 99, 0, 0, 0, 6)), (6, (40, 0, 0, 0, 0, 0)), (7, (1, 0, 0, 0, 0, 8)), (8, (0, 1, 0, 0, 0, 9)), (9, (16, 7, 1, 16, 0, 12)), (12, (0, 2, 0, 0, 0, 13)), (13, (17, 5, 0, 0, 0, 18)), (16, (0, 20, 0, 0, 0, 18)), (18, (40, 0, 0, 0, 0, 0))])]
def tb_X4_costOrNotFound : List (Nat × List (Nat × AMI)) := [
  (13, [(0, (1, 0, 0, 0, 0, 1)), (1, (0, 268435456, 0, 0, 0, 3)), (3, (16, 7, 3, 10, 0, 6)), (6, (1, 0, 0, 0, 0, 7)), (7, (17, 5, 0, 0, 0, 12)), (10, (0, (-4), 0, 0, 0, 12)), (12, (40, 0, 0, 0, 0, 0))])]
def tb_X6_cell : List (Nat × List (Nat × AMI)) := [
  (17, [(0, (1, 0, 1, 0, 0, 1)), (1, (2, 0, 0, 0, 0, 2)), (2, (48, 0, 0, 0, 0, 3)), (3, (16, 9, 3, 12, 0, 6)), (6, (2, 0, 0, 0, 0, 7)), (7, (1, 0, 1, 0, 0, 8)), (8, (50, 0, 0, 0, 0, 9)), (9, (17, 10, 0, 0, 0, 19)), (12, (0, 15485959, 0, 0, 0, 14)), (14, (1, 0, 1, 0, 0, 15)), (15, (7, 0, 0, 0, 0, 16)), (16, (0, 109, 0, 0, 0, 18))]),
  (23, [(18, (5, 0, 0, 0, 0, 19)), (19, (0, 2147483647, 0, 0, 0, 21)), (21, (47, 0, 0, 0, 0, 22)), (22, (40, 0, 0, 0, 0, 0))])]
def tb_X6_builds : List (Nat × List (Nat × AMI)) := [
  (16, [(0, (0, 6, 0, 0, 0, 2)), (2, (2, 0, 1, 0, 0, 3)), (3, (0, 0, 0, 0, 0, 4)), (4, (32, 9, 75, 2, 6, 7)), (7, (0, 30, 0, 0, 0, 9)), (9, (9, 0, 0, 0, 0, 10)), (10, (5, 0, 0, 0, 0, 11)), (11, (3, 0, 2, 0, 0, 12)), (12, (0, 0, 0, 0, 0, 13)), (13, (3, 0, 3, 0, 0, 14)), (14, (1, 0, 3, 0, 0, 15)), (15, (1, 0, 2, 0, 0, 16))]),
  (34, [(16, (16, 57, 3, 73, 0, 19)), (19, (2, 0, 1, 0, 0, 20)), (20, (0, 1, 0, 0, 0, 21)), (21, (1, 0, 3, 0, 0, 22)), (22, (0, 20, 0, 0, 0, 24)), (24, (9, 0, 0, 0, 0, 25)), (25, (5, 0, 0, 0, 0, 26)), (26, (32, 9, 75, 2, 6, 29)), (29, (0, 1, 0, 0, 0, 30)), (30, (1, 0, 3, 0, 0, 31)), (31, (0, 20, 0, 0, 0, 33)), (33, (8, 0, 0, 0, 0, 34))]),
  (50, [(34, (5, 0, 0, 0, 0, 35)), (35, (8, 0, 0, 0, 0, 36)), (36, (3, 0, 4, 0, 0, 38)), (38, (2, 0, 0, 0, 0, 39)), (39, (1, 0, 3, 0, 0, 40)), (40, (0, 1, 0, 0, 0, 41)), (41, (1, 0, 4, 0, 0, 43)), (43, (0, 99, 0, 0, 0, 45)), (45, (9, 0, 0, 0, 0, 46)), (46, (5, 0, 0, 0, 0, 47)), (47, (1, 0, 4, 0, 0, 49)), (49, (0, 99, 0, 0, 0, 51))]),
  (71, [(51, (8, 0, 0, 0, 0, 52)), (52, (0, 3, 0, 0, 0, 53)), (53, (9, 0, 0, 0, 0, 54)), (54, (1, 0, 4, 0, 0, 56)), (56, (0, 300, 0, 0, 0, 59)), (59, (8, 0, 0, 0, 0, 60)), (60, (0, 9, 0, 0, 0, 62)), (62, (9, 0, 0, 0, 0, 63)), (63, (31, 15, 46, 5, 4, 66)), (66, (14, 0, 0, 0, 0, 67)), (67, (11, 1, 3, 0, 0, 70)), (70, (17, (-56), 0, 0, 0, 14))]),
  (91, [(73, (0, 0, 0, 0, 0, 74)), (74, (3, 0, 3, 0, 0, 75)), (75, (0, 0, 0, 0, 0, 76)), (76, (3, 0, 4, 0, 0, 78)), (78, (1, 0, 4, 0, 0, 80)), (80, (0, 4, 0, 0, 0, 81)), (81, (16, 57, 3, 138, 0, 84)), (84, (2, 0, 1, 0, 0, 85)), (85, (0, 21, 0, 0, 0, 87)), (87, (1, 0, 4, 0, 0, 89)), (89, (5, 0, 0, 0, 0, 90)), (90, (32, 9, 75, 2, 6, 93))]),
  (109, [(93, (3, 0, 5, 0, 0, 95)), (95, (1, 0, 3, 0, 0, 96)), (96, (1, 0, 5, 0, 0, 98)), (98, (0, 15, 0, 0, 0, 100)), (100, (9, 0, 0, 0, 0, 101)), (101, (5, 0, 0, 0, 0, 102)), (102, (3, 0, 3, 0, 0, 103)), (103, (2, 0, 0, 0, 0, 104)), (104, (0, 1, 0, 0, 0, 105)), (105, (1, 0, 4, 0, 0, 107)), (107, (1, 0, 2, 0, 0, 108)), (108, (7, 0, 0, 0, 0, 109))]),
  (123, [(109, (1, 0, 5, 0, 0, 111)), (111, (1, 0, 2, 0, 0, 112)), (112, (9, 0, 0, 0, 0, 113)), (113, (5, 0, 0, 0, 0, 114)), (114, (0, 4, 0, 0, 0, 115)), (115, (8, 0, 0, 0, 0, 116)), (116, (1, 0, 2, 0, 0, 117)), (117, (9, 0, 0, 0, 0, 118)), (118, (5, 0, 0, 0, 0, 119)), (119, (1, 0, 3, 0, 0, 120)), (120, (1, 0, 5, 0, 0, 122)), (122, (0, 6, 0, 0, 0, 124))]),
  (145, [(124, (46, 0, 0, 0, 0, 125)), (125, (0, 8, 0, 0, 0, 127)), (127, (9, 0, 0, 0, 0, 128)), (128, (31, 21, 49, 4, 4, 131)), (131, (14, 0, 0, 0, 0, 132)), (132, (11, 1, 4, 0, 0, 135)), (135, (17, (-57), 0, 0, 0, 78)), (138, (0, 0, 0, 0, 0, 139)), (139, (3, 0, 4, 0, 0, 141)), (141, (1, 0, 4, 0, 0, 143)), (143, (0, 4, 0, 0, 0, 144)), (144, (16, 30, 3, 174, 0, 147))]),
  (165, [(147, (2, 0, 0, 0, 0, 148)), (148, (1, 0, 4, 0, 0, 150)), (150, (0, 1, 0, 0, 0, 151)), (151, (2, 0, 1, 0, 0, 152)), (152, (0, 25, 0, 0, 0, 154)), (154, (1, 0, 4, 0, 0, 156)), (156, (5, 0, 0, 0, 0, 157)), (157, (32, 9, 75, 2, 6, 160)), (160, (0, 12, 0, 0, 0, 162)), (162, (9, 0, 0, 0, 0, 163)), (163, (5, 0, 0, 0, 0, 164)), (164, (31, 25, 51, 3, 4, 167))]),
  (176, [(167, (14, 0, 0, 0, 0, 168)), (168, (11, 1, 4, 0, 0, 171)), (171, (17, (-30), 0, 0, 0, 141)), (174, (1, 0, 2, 0, 0, 175)), (175, (40, 0, 0, 0, 0, 0))])]
def tb_X6_holds : List (Nat × List (Nat × AMI)) := [
  (23, [(0, (2, 0, 0, 0, 0, 1)), (1, (31, 29, 56, 1, 4, 4)), (4, (3, 0, 2, 0, 0, 5)), (5, (1, 0, 2, 0, 0, 6)), (6, (15, 39, 3, 45, 0, 9)), (9, (1, 0, 2, 0, 0, 10)), (10, (0, (-4), 0, 0, 0, 12)), (12, (16, 31, 1, 43, 0, 15)), (15, (2, 0, 0, 0, 0, 16)), (16, (31, 33, 61, 1, 4, 19)), (19, (15, 24, 1, 43, 0, 22)), (22, (2, 0, 0, 0, 0, 23))]),
  (46, [(23, (31, 36, 64, 1, 4, 26)), (26, (15, 17, 5, 43, 0, 29)), (29, (2, 0, 0, 0, 0, 30)), (30, (1, 0, 1, 0, 0, 31)), (31, (31, 39, 58, 2, 4, 34)), (34, (0, (-4), 0, 0, 0, 36)), (36, (16, 7, 1, 43, 0, 39)), (39, (0, 1, 0, 0, 0, 40)), (40, (17, 4, 0, 0, 0, 44)), (43, (0, 0, 0, 0, 0, 44)), (44, (41, 0, 0, 0, 0, 0)), (45, (0, 0, 0, 0, 0, 46))]),
  (67, [(46, (3, 0, 3, 0, 0, 47)), (47, (0, 0, 0, 0, 0, 48)), (48, (3, 0, 4, 0, 0, 50)), (50, (2, 0, 0, 0, 0, 51)), (51, (31, 33, 61, 1, 4, 54)), (54, (0, 1, 0, 0, 0, 55)), (55, (16, 46, 2, 101, 0, 58)), (58, (2, 0, 0, 0, 0, 59)), (59, (31, 36, 64, 1, 4, 62)), (62, (15, 39, 1, 101, 0, 65)), (65, (2, 0, 0, 0, 0, 66)), (66, (0, 0, 0, 0, 0, 67))]),
  (89, [(67, (31, 39, 58, 2, 4, 70)), (70, (15, 31, 1, 101, 0, 73)), (73, (2, 0, 0, 0, 0, 74)), (74, (1, 0, 1, 0, 0, 75)), (75, (31, 39, 58, 2, 4, 78)), (78, (2, 0, 0, 0, 0, 79)), (79, (0, 4, 0, 0, 0, 80)), (80, (31, 43, 60, 2, 4, 83)), (83, (16, 18, 1, 101, 0, 86)), (86, (2, 0, 0, 0, 0, 87)), (87, (0, 4, 0, 0, 0, 88)), (88, (31, 43, 60, 2, 4, 91))]),
  (114, [(91, (0, 600, 0, 0, 0, 94)), (94, (16, 7, 4, 101, 0, 97)), (97, (0, 1, 0, 0, 0, 98)), (98, (17, 4, 0, 0, 0, 102)), (101, (0, 0, 0, 0, 0, 102)), (102, (3, 0, 5, 0, 0, 104)), (104, (0, 0, 0, 0, 0, 105)), (105, (3, 0, 6, 0, 0, 107)), (107, (1, 0, 6, 0, 0, 109)), (109, (1, 0, 1, 0, 0, 110)), (110, (16, 142, 3, 252, 0, 113)), (113, (1, 0, 5, 0, 0, 115))]),
  (137, [(115, (15, 137, 0, 252, 0, 118)), (118, (2, 0, 0, 0, 0, 119)), (119, (1, 0, 6, 0, 0, 121)), (121, (0, 0, 0, 0, 0, 122)), (122, (31, 46, 57, 3, 4, 125)), (125, (3, 0, 7, 0, 0, 127)), (127, (2, 0, 0, 0, 0, 128)), (128, (1, 0, 6, 0, 0, 130)), (130, (0, 1, 0, 0, 0, 131)), (131, (31, 46, 57, 3, 4, 134)), (134, (3, 0, 8, 0, 0, 136)), (136, (2, 0, 0, 0, 0, 137))]),
  (162, [(137, (1, 0, 6, 0, 0, 139)), (139, (0, 1, 0, 0, 0, 140)), (140, (31, 49, 54, 3, 4, 143)), (143, (3, 0, 9, 0, 0, 145)), (145, (1, 0, 9, 0, 0, 147)), (147, (15, 12, 1, 159, 0, 150)), (150, (1, 0, 7, 0, 0, 152)), (152, (0, 1, 0, 0, 0, 153)), (153, (16, 82, 1, 235, 0, 156)), (156, (17, 35, 0, 0, 0, 191)), (159, (1, 0, 9, 0, 0, 161)), (161, (0, 1, 0, 0, 0, 162))]),
  (188, [(162, (16, 17, 1, 179, 0, 165)), (165, (1, 0, 7, 0, 0, 167)), (167, (15, 24, 0, 191, 0, 170)), (170, (1, 0, 7, 0, 0, 172)), (172, (0, 1, 0, 0, 0, 173)), (173, (16, 62, 1, 235, 0, 176)), (176, (17, 15, 0, 0, 0, 191)), (179, (1, 0, 7, 0, 0, 181)), (181, (0, 1, 0, 0, 0, 182)), (182, (16, 9, 0, 191, 0, 185)), (185, (1, 0, 7, 0, 0, 187)), (187, (0, 2, 0, 0, 0, 188))]),
  (212, [(188, (16, 47, 1, 235, 0, 191)), (191, (1, 0, 8, 0, 0, 193)), (193, (15, 42, 2, 235, 0, 196)), (196, (1, 0, 8, 0, 0, 198)), (198, (2, 0, 0, 0, 0, 199)), (199, (1, 0, 6, 0, 0, 201)), (201, (0, 2, 0, 0, 0, 202)), (202, (31, 49, 54, 3, 4, 205)), (205, (16, 30, 4, 235, 0, 208)), (208, (2, 0, 0, 0, 0, 209)), (209, (1, 0, 6, 0, 0, 211)), (211, (0, 1, 0, 0, 0, 212))]),
  (233, [(212, (5, 0, 0, 0, 0, 213)), (213, (31, 39, 58, 2, 4, 216)), (216, (2, 0, 0, 0, 0, 217)), (217, (1, 0, 6, 0, 0, 219)), (219, (31, 39, 58, 2, 4, 222)), (222, (1, 0, 7, 0, 0, 224)), (224, (5, 0, 0, 0, 0, 225)), (225, (1, 0, 8, 0, 0, 227)), (227, (5, 0, 0, 0, 0, 228)), (228, (16, 7, 1, 235, 0, 231)), (231, (0, 1, 0, 0, 0, 232)), (232, (17, 4, 0, 0, 0, 236))]),
  (253, [(235, (0, 0, 0, 0, 0, 236)), (236, (3, 0, 5, 0, 0, 238)), (238, (1, 0, 6, 0, 0, 240)), (240, (0, 1, 0, 0, 0, 241)), (241, (1, 0, 1, 0, 0, 242)), (242, (0, 12, 0, 0, 0, 244)), (244, (8, 0, 0, 0, 0, 245)), (245, (5, 0, 0, 0, 0, 246)), (246, (5, 0, 0, 0, 0, 247)), (247, (3, 0, 6, 0, 0, 249)), (249, (17, (-142), 0, 0, 0, 107)), (252, (0, 0, 0, 0, 0, 253))]),
  (277, [(253, (3, 0, 6, 0, 0, 255)), (255, (1, 0, 6, 0, 0, 257)), (257, (2, 0, 0, 0, 0, 258)), (258, (0, 1, 0, 0, 0, 259)), (259, (31, 52, 53, 2, 4, 262)), (262, (16, 130, 3, 392, 0, 265)), (265, (1, 0, 5, 0, 0, 267)), (267, (15, 125, 0, 392, 0, 270)), (270, (2, 0, 0, 0, 0, 271)), (271, (1, 0, 6, 0, 0, 273)), (273, (31, 55, 59, 2, 4, 276)), (276, (0, 100, 0, 0, 0, 278))]),
  (300, [(278, (6, 0, 0, 0, 0, 279)), (279, (3, 0, 7, 0, 0, 281)), (281, (1, 0, 4, 0, 0, 283)), (283, (1, 0, 7, 0, 0, 285)), (285, (15, 9, 3, 294, 0, 288)), (288, (1, 0, 7, 0, 0, 290)), (290, (10, 0, 0, 0, 0, 291)), (291, (17, 5, 0, 0, 0, 296)), (294, (1, 0, 7, 0, 0, 296)), (296, (5, 0, 0, 0, 0, 297)), (297, (3, 0, 4, 0, 0, 299)), (299, (1, 0, 7, 0, 0, 301))]),
  (321, [(301, (2, 0, 0, 0, 0, 302)), (302, (2, 0, 0, 0, 0, 303)), (303, (1, 0, 6, 0, 0, 305)), (305, (0, 0, 0, 0, 0, 306)), (306, (31, 58, 55, 3, 4, 309)), (309, (31, 39, 58, 2, 4, 312)), (312, (2, 0, 0, 0, 0, 313)), (313, (1, 0, 6, 0, 0, 315)), (315, (0, 1, 0, 0, 0, 316)), (316, (31, 58, 55, 3, 4, 319)), (319, (6, 0, 0, 0, 0, 320)), (320, (16, 32, 1, 352, 0, 323))]),
  (343, [(323, (1, 0, 7, 0, 0, 325)), (325, (2, 0, 0, 0, 0, 326)), (326, (1, 0, 6, 0, 0, 328)), (328, (0, 2, 0, 0, 0, 329)), (329, (31, 58, 55, 3, 4, 332)), (332, (16, 20, 4, 352, 0, 335)), (335, (1, 0, 7, 0, 0, 337)), (337, (10, 0, 0, 0, 0, 338)), (338, (2, 0, 0, 0, 0, 339)), (339, (1, 0, 6, 0, 0, 341)), (341, (0, 2, 0, 0, 0, 342)), (342, (31, 58, 55, 3, 4, 345))]),
  (369, [(345, (16, 7, 4, 352, 0, 348)), (348, (0, 1, 0, 0, 0, 349)), (349, (17, 4, 0, 0, 0, 353)), (352, (0, 0, 0, 0, 0, 353)), (353, (3, 0, 5, 0, 0, 355)), (355, (2, 0, 0, 0, 0, 356)), (356, (1, 0, 6, 0, 0, 358)), (358, (31, 61, 63, 2, 4, 361)), (361, (3, 0, 8, 0, 0, 363)), (363, (1, 0, 5, 0, 0, 365)), (365, (15, 18, 0, 383, 0, 368)), (368, (1, 0, 8, 0, 0, 370))]),
  (394, [(370, (15, 13, 2, 383, 0, 373)), (373, (1, 0, 8, 0, 0, 375)), (375, (1, 0, 2, 0, 0, 376)), (376, (16, 7, 4, 383, 0, 379)), (379, (0, 1, 0, 0, 0, 380)), (380, (17, 4, 0, 0, 0, 384)), (383, (0, 0, 0, 0, 0, 384)), (384, (3, 0, 5, 0, 0, 386)), (386, (11, 1, 6, 0, 0, 389)), (389, (17, (-134), 0, 0, 0, 255)), (392, (2, 0, 0, 0, 0, 393)), (393, (0, 0, 0, 0, 0, 394))]),
  (415, [(394, (31, 43, 60, 2, 4, 397)), (397, (2, 0, 0, 0, 0, 398)), (398, (0, 5, 0, 0, 0, 399)), (399, (31, 52, 53, 2, 4, 402)), (402, (7, 0, 0, 0, 0, 403)), (403, (2, 0, 0, 0, 0, 404)), (404, (0, 1, 0, 0, 0, 405)), (405, (31, 43, 60, 2, 4, 408)), (408, (2, 0, 0, 0, 0, 409)), (409, (0, 6, 0, 0, 0, 411)), (411, (31, 52, 53, 2, 4, 414)), (414, (7, 0, 0, 0, 0, 415))]),
  (433, [(415, (5, 0, 0, 0, 0, 416)), (416, (2, 0, 0, 0, 0, 417)), (417, (0, 2, 0, 0, 0, 418)), (418, (31, 43, 60, 2, 4, 421)), (421, (2, 0, 0, 0, 0, 422)), (422, (0, 7, 0, 0, 0, 424)), (424, (31, 52, 53, 2, 4, 427)), (427, (7, 0, 0, 0, 0, 428)), (428, (5, 0, 0, 0, 0, 429)), (429, (1, 0, 4, 0, 0, 431)), (431, (2, 0, 0, 0, 0, 432)), (432, (0, 8, 0, 0, 0, 434))]),
  (453, [(434, (31, 52, 53, 2, 4, 437)), (437, (7, 0, 0, 0, 0, 438)), (438, (5, 0, 0, 0, 0, 439)), (439, (3, 0, 3, 0, 0, 440)), (440, (1, 0, 5, 0, 0, 442)), (442, (15, 22, 0, 464, 0, 445)), (445, (1, 0, 3, 0, 0, 446)), (446, (1, 0, 2, 0, 0, 447)), (447, (16, 17, 1, 464, 0, 450)), (450, (2, 0, 0, 0, 0, 451)), (451, (0, 3, 0, 0, 0, 452)), (452, (31, 43, 60, 2, 4, 455))]),
  (474, [(455, (1, 0, 4, 0, 0, 457)), (457, (16, 7, 1, 464, 0, 460)), (460, (0, 1, 0, 0, 0, 461)), (461, (17, 4, 0, 0, 0, 465)), (464, (0, 0, 0, 0, 0, 465)), (465, (3, 0, 5, 0, 0, 467)), (467, (1, 0, 1, 0, 0, 468)), (468, (0, 2, 0, 0, 0, 469)), (469, (8, 0, 0, 0, 0, 470)), (470, (3, 0, 6, 0, 0, 472)), (472, (2, 0, 0, 0, 0, 473)), (473, (1, 0, 6, 0, 0, 475))]),
  (495, [(475, (0, 0, 0, 0, 0, 476)), (476, (0, 0, 0, 0, 0, 477)), (477, (31, 64, 62, 4, 4, 480)), (480, (3, 0, 7, 0, 0, 482)), (482, (2, 0, 0, 0, 0, 483)), (483, (1, 0, 6, 0, 0, 485)), (485, (0, 0, 0, 0, 0, 486)), (486, (0, 1, 0, 0, 0, 487)), (487, (31, 64, 62, 4, 4, 490)), (490, (3, 0, 8, 0, 0, 492)), (492, (1, 0, 5, 0, 0, 494)), (494, (15, 57, 0, 551, 0, 497))]),
  (521, [(497, (1, 0, 7, 0, 0, 499)), (499, (2, 0, 0, 0, 0, 500)), (500, (1, 0, 6, 0, 0, 502)), (502, (31, 39, 58, 2, 4, 505)), (505, (16, 46, 4, 551, 0, 508)), (508, (1, 0, 8, 0, 0, 510)), (510, (2, 0, 0, 0, 0, 511)), (511, (1, 0, 6, 0, 0, 513)), (513, (31, 39, 58, 2, 4, 516)), (516, (16, 35, 2, 551, 0, 519)), (519, (2, 0, 0, 0, 0, 520)), (520, (1, 0, 6, 0, 0, 522))]),
  (545, [(522, (0, 9, 0, 0, 0, 524)), (524, (0, 0, 0, 0, 0, 525)), (525, (31, 64, 62, 4, 4, 528)), (528, (1, 0, 7, 0, 0, 530)), (530, (16, 21, 4, 551, 0, 533)), (533, (2, 0, 0, 0, 0, 534)), (534, (1, 0, 6, 0, 0, 536)), (536, (0, 9, 0, 0, 0, 538)), (538, (0, 1, 0, 0, 0, 539)), (539, (31, 64, 62, 4, 4, 542)), (542, (1, 0, 8, 0, 0, 544)), (544, (16, 7, 2, 551, 0, 547))]),
  (553, [(547, (0, 1, 0, 0, 0, 548)), (548, (17, 4, 0, 0, 0, 552)), (551, (0, 0, 0, 0, 0, 552)), (552, (41, 0, 0, 0, 0, 0))])]
def tb_law : List (Nat × List (Nat × AMI)) := [
  (20, [(0, (99, 0, 0, 0, 0, 0)), (3, (12, 0, 0, 0, 0, 4)), (4, (99, 0, 0, 0, 0, 0)), (7, (4, 0, 1, 0, 0, 8)), (8, (2, 0, 1, 0, 0, 9)), (9, (2, 0, 0, 0, 0, 10)), (10, (32, 68, 76, 2, 6, 13)), (13, (3, 0, 2, 0, 0, 14)), (14, (2, 0, 1, 0, 0, 15)), (15, (1, 0, 2, 0, 0, 16)), (16, (32, 72, 77, 2, 6, 19)), (19, (3, 0, 3, 0, 0, 20))]),
  (45, [(20, (2, 0, 1, 0, 0, 21)), (21, (31, 36, 64, 1, 4, 24)), (24, (3, 0, 4, 0, 0, 26)), (26, (1, 0, 3, 0, 0, 27)), (27, (15, 20, 0, 47, 0, 30)), (30, (1, 0, 4, 0, 0, 32)), (32, (15, 15, 2, 47, 0, 35)), (35, (1, 0, 4, 0, 0, 37)), (37, (0, 500, 0, 0, 0, 40)), (40, (16, 7, 4, 47, 0, 43)), (43, (0, 1, 0, 0, 0, 44)), (44, (17, 4, 0, 0, 0, 48))]),
  (66, [(47, (0, 0, 0, 0, 0, 48)), (48, (3, 0, 3, 0, 0, 49)), (49, (2, 0, 1, 0, 0, 50)), (50, (31, 29, 56, 1, 4, 53)), (53, (3, 0, 5, 0, 0, 55)), (55, (2, 0, 1, 0, 0, 56)), (56, (0, 1, 0, 0, 0, 57)), (57, (31, 52, 53, 2, 4, 60)), (60, (15, 62, 5, 122, 0, 63)), (63, (2, 0, 1, 0, 0, 64)), (64, (0, 0, 0, 0, 0, 65)), (65, (31, 61, 63, 2, 4, 68))]),
  (92, [(68, (3, 0, 6, 0, 0, 70)), (70, (1, 0, 3, 0, 0, 71)), (71, (15, 49, 0, 120, 0, 74)), (74, (2, 0, 1, 0, 0, 75)), (75, (0, 0, 0, 0, 0, 76)), (76, (31, 76, 50, 2, 4, 79)), (79, (15, 41, 2, 120, 0, 82)), (82, (2, 0, 1, 0, 0, 83)), (83, (31, 29, 56, 1, 4, 86)), (86, (1, 0, 6, 0, 0, 88)), (88, (16, 32, 1, 120, 0, 91)), (91, (1, 0, 5, 0, 0, 93))]),
  (118, [(93, (15, 15, 2, 108, 0, 96)), (96, (1, 0, 6, 0, 0, 98)), (98, (15, 22, 2, 120, 0, 101)), (101, (1, 0, 6, 0, 0, 103)), (103, (1, 0, 5, 0, 0, 105)), (105, (16, 15, 4, 120, 0, 108)), (108, (2, 0, 1, 0, 0, 109)), (109, (1, 0, 2, 0, 0, 110)), (110, (32, 72, 77, 2, 6, 113)), (113, (15, 7, 0, 120, 0, 116)), (116, (0, 1, 0, 0, 0, 117)), (117, (17, 4, 0, 0, 0, 121))]),
  (138, [(120, (0, 0, 0, 0, 0, 121)), (121, (3, 0, 3, 0, 0, 122)), (122, (2, 0, 1, 0, 0, 123)), (123, (0, 1, 0, 0, 0, 124)), (124, (31, 52, 53, 2, 4, 127)), (127, (0, 1, 0, 0, 0, 128)), (128, (16, 18, 5, 146, 0, 131)), (131, (2, 0, 1, 0, 0, 132)), (132, (2, 0, 1, 0, 0, 133)), (133, (0, 1, 0, 0, 0, 134)), (134, (31, 52, 53, 2, 4, 137)), (137, (0, 1, 0, 0, 0, 138))]),
  (162, [(138, (6, 0, 0, 0, 0, 139)), (139, (31, 76, 50, 2, 4, 142)), (142, (14, 0, 0, 0, 0, 143)), (143, (17, (-21), 0, 0, 0, 122)), (146, (2, 0, 1, 0, 0, 147)), (147, (31, 29, 56, 1, 4, 150)), (150, (3, 0, 6, 0, 0, 152)), (152, (1, 0, 3, 0, 0, 153)), (153, (15, 216, 0, 369, 0, 156)), (156, (1, 0, 6, 0, 0, 158)), (158, (15, 211, 2, 369, 0, 161)), (161, (0, 1, 0, 0, 0, 162))]),
  (182, [(162, (2, 0, 0, 0, 0, 163)), (163, (0, 30, 0, 0, 0, 165)), (165, (32, 9, 75, 2, 6, 168)), (168, (1, 0, 2, 0, 0, 169)), (169, (9, 0, 0, 0, 0, 170)), (170, (5, 0, 0, 0, 0, 171)), (171, (3, 0, 7, 0, 0, 173)), (173, (2, 0, 1, 0, 0, 174)), (174, (1, 0, 7, 0, 0, 176)), (176, (31, 39, 58, 2, 4, 179)), (179, (3, 0, 8, 0, 0, 181)), (181, (2, 0, 1, 0, 0, 182))]),
  (205, [(182, (1, 0, 7, 0, 0, 184)), (184, (1, 0, 8, 0, 0, 186)), (186, (0, 0, 0, 0, 0, 187)), (187, (31, 79, 65, 4, 4, 190)), (190, (3, 0, 9, 0, 0, 192)), (192, (1, 0, 9, 0, 0, 194)), (194, (0, (-2), 0, 0, 0, 196)), (196, (16, 7, 0, 203, 0, 199)), (199, (0, 1, 0, 0, 0, 200)), (200, (17, 4, 0, 0, 0, 204)), (203, (0, 0, 0, 0, 0, 204)), (204, (3, 0, 10, 0, 0, 206))]),
  (235, [(206, (1, 0, 8, 0, 0, 208)), (208, (15, 84, 2, 292, 0, 211)), (211, (1, 0, 8, 0, 0, 213)), (213, (0, 600, 0, 0, 0, 216)), (216, (16, 76, 4, 292, 0, 219)), (219, (1, 0, 10, 0, 0, 221)), (221, (15, 18, 0, 239, 0, 224)), (224, (1, 0, 8, 0, 0, 226)), (226, (0, 500, 0, 0, 0, 229)), (229, (16, 10, 4, 239, 0, 232)), (232, (1, 0, 9, 0, 0, 234)), (234, (1, 0, 6, 0, 0, 236))]),
  (262, [(236, (16, 56, 1, 292, 0, 239)), (239, (1, 0, 10, 0, 0, 241)), (241, (15, 47, 0, 288, 0, 244)), (244, (1, 0, 8, 0, 0, 246)), (246, (0, 500, 0, 0, 0, 249)), (249, (16, 39, 4, 288, 0, 252)), (252, (2, 0, 1, 0, 0, 253)), (253, (1, 0, 7, 0, 0, 255)), (255, (1, 0, 8, 0, 0, 257)), (257, (0, 0, 0, 0, 0, 258)), (258, (31, 21, 49, 4, 4, 261)), (261, (15, 31, 2, 292, 0, 264))]),
  (289, [(264, (2, 0, 1, 0, 0, 265)), (265, (31, 29, 56, 1, 4, 268)), (268, (1, 0, 6, 0, 0, 270)), (270, (16, 22, 1, 292, 0, 273)), (273, (2, 0, 1, 0, 0, 274)), (274, (1, 0, 2, 0, 0, 275)), (275, (32, 72, 77, 2, 6, 278)), (278, (15, 14, 0, 292, 0, 281)), (281, (2, 0, 1, 0, 0, 282)), (282, (31, 82, 52, 1, 4, 285)), (285, (15, 7, 2, 292, 0, 288)), (288, (0, 1, 0, 0, 0, 289))]),
  (308, [(289, (17, 4, 0, 0, 0, 293)), (292, (0, 0, 0, 0, 0, 293)), (293, (3, 0, 3, 0, 0, 294)), (294, (2, 0, 0, 0, 0, 295)), (295, (0, 31, 0, 0, 0, 297)), (297, (32, 9, 75, 2, 6, 300)), (300, (1, 0, 2, 0, 0, 301)), (301, (9, 0, 0, 0, 0, 302)), (302, (3, 0, 11, 0, 0, 304)), (304, (2, 0, 1, 0, 0, 305)), (305, (1, 0, 11, 0, 0, 307)), (307, (0, 2, 0, 0, 0, 308))]),
  (332, [(308, (31, 49, 54, 3, 4, 311)), (311, (3, 0, 12, 0, 0, 313)), (313, (1, 0, 3, 0, 0, 314)), (314, (15, 53, 0, 367, 0, 317)), (317, (2, 0, 1, 0, 0, 318)), (318, (1, 0, 11, 0, 0, 320)), (320, (0, 2, 0, 0, 0, 321)), (321, (0, 20, 0, 0, 0, 323)), (323, (31, 85, 48, 4, 4, 326)), (326, (1, 0, 12, 0, 0, 328)), (328, (16, 39, 1, 367, 0, 331)), (331, (2, 0, 1, 0, 0, 332))]),
  (359, [(332, (31, 29, 56, 1, 4, 335)), (335, (15, 32, 2, 367, 0, 338)), (338, (2, 0, 1, 0, 0, 339)), (339, (31, 29, 56, 1, 4, 342)), (342, (1, 0, 6, 0, 0, 344)), (344, (16, 23, 4, 367, 0, 347)), (347, (2, 0, 1, 0, 0, 348)), (348, (31, 82, 52, 1, 4, 351)), (351, (15, 16, 2, 367, 0, 354)), (354, (2, 0, 1, 0, 0, 355)), (355, (31, 29, 56, 1, 4, 358)), (358, (1, 0, 6, 0, 0, 360))]),
  (379, [(360, (16, 7, 1, 367, 0, 363)), (363, (0, 1, 0, 0, 0, 364)), (364, (17, 4, 0, 0, 0, 368)), (367, (0, 0, 0, 0, 0, 368)), (368, (3, 0, 3, 0, 0, 369)), (369, (2, 0, 1, 0, 0, 370)), (370, (0, 2, 0, 0, 0, 371)), (371, (31, 52, 53, 2, 4, 374)), (374, (3, 0, 7, 0, 0, 376)), (376, (2, 0, 1, 0, 0, 377)), (377, (1, 0, 2, 0, 0, 378)), (378, (0, 1, 0, 0, 0, 379))]),
  (398, [(379, (6, 0, 0, 0, 0, 380)), (380, (0, 0, 0, 0, 0, 381)), (381, (31, 49, 54, 3, 4, 384)), (384, (3, 0, 8, 0, 0, 386)), (386, (1, 0, 3, 0, 0, 387)), (387, (15, 59, 0, 446, 0, 390)), (390, (2, 0, 1, 0, 0, 391)), (391, (1, 0, 2, 0, 0, 392)), (392, (0, 1, 0, 0, 0, 393)), (393, (6, 0, 0, 0, 0, 394)), (394, (31, 88, 47, 2, 4, 397)), (397, (1, 0, 2, 0, 0, 398))]),
  (418, [(398, (0, 1, 0, 0, 0, 399)), (399, (6, 0, 0, 0, 0, 400)), (400, (16, 46, 1, 446, 0, 403)), (403, (2, 0, 1, 0, 0, 404)), (404, (0, 2, 0, 0, 0, 405)), (405, (31, 52, 53, 2, 4, 408)), (408, (1, 0, 7, 0, 0, 410)), (410, (1, 0, 8, 0, 0, 412)), (412, (6, 0, 0, 0, 0, 413)), (413, (16, 33, 1, 446, 0, 416)), (416, (2, 0, 1, 0, 0, 417)), (417, (31, 82, 52, 1, 4, 420))]),
  (444, [(420, (15, 26, 2, 446, 0, 423)), (423, (2, 0, 1, 0, 0, 424)), (424, (31, 29, 56, 1, 4, 427)), (427, (1, 0, 6, 0, 0, 429)), (429, (16, 17, 1, 446, 0, 432)), (432, (2, 0, 1, 0, 0, 433)), (433, (0, 2, 0, 0, 0, 434)), (434, (31, 52, 53, 2, 4, 437)), (437, (1, 0, 7, 0, 0, 439)), (439, (16, 7, 1, 446, 0, 442)), (442, (0, 1, 0, 0, 0, 443)), (443, (17, 4, 0, 0, 0, 447))]),
  (448, [(446, (0, 0, 0, 0, 0, 447)), (447, (40, 0, 0, 0, 0, 0))])]
abbrev m_X0_takeAll : Nat := 0
abbrev m_X0_takeLayersAndAshes : Nat := 1
abbrev m_X0_layerProperties : Nat := 2
abbrev m_X0_ashProperties : Nat := 3
abbrev m_X0_insertLayer : Nat := 4
abbrev m_X0_deleteLayer : Nat := 5
abbrev m_X0_insertAsh : Nat := 6
abbrev m_X0_deleteAsh : Nat := 7
abbrev m_X0_ashAt : Nat := 8
abbrev m_X0_thicknessBetween : Nat := 9
abbrev m_X0_layersOfKind : Nat := 10
abbrev m_X0_leastOwn : Nat := 11
abbrev m_X0_mostOwn : Nat := 12
abbrev m_X0_mostYears : Nat := 13
abbrev m_X0_ownCost : Nat := 14
abbrev m_X0_missingCost : Nat := 15
abbrev m_X0_ashCost : Nat := 16
abbrev m_X0_fitsWith : Nat := 17
abbrev m_X0_insertAt : Nat := 18
abbrev m_X0_deleteAt : Nat := 19
abbrev m_X1_keep : Nat := 20
abbrev m_X1_restore : Nat := 21
abbrev m_X2_forget : Nat := 22
abbrev m_X2_hasCount : Nat := 23
abbrev m_X2_leastCost : Nat := 24
abbrev m_X2_offsetOf : Nat := 25
abbrev m_X2_layersWith : Nat := 26
abbrev m_X2_allMissing : Nat := 27
abbrev m_X2_allOffsets : Nat := 28
abbrev m_X2_leastWithoutAsh : Nat := 29
abbrev m_X2_leastWithAsh : Nat := 30
abbrev m_X2_leastAge : Nat := 31
abbrev m_X2_greatestAge : Nat := 32
abbrev m_X2_costThrough : Nat := 33
abbrev m_X2_numberOfWays : Nat := 34
abbrev m_X2_countWays : Nat := 35
abbrev m_X2_handOnWays : Nat := 36
abbrev m_X2_makeBelow : Nat := 37
abbrev m_X2_makeAbove : Nat := 38
abbrev m_X2_clearRow : Nat := 39
abbrev m_X2_addAshCosts : Nat := 40
abbrev m_X2_addOwnCosts : Nat := 41
abbrev m_X2_addMissingCosts : Nat := 42
abbrev m_X2_costFrom : Nat := 43
abbrev m_X2_followBest : Nat := 44
abbrev m_X2_chooseYears : Nat := 45
abbrev m_X4_addLayer : Nat := 46
abbrev m_X4_removeLayer : Nat := 47
abbrev m_X4_setLayer : Nat := 48
abbrev m_X4_addAsh : Nat := 49
abbrev m_X4_removeAsh : Nat := 50
abbrev m_X4_set : Nat := 51
abbrev m_X4_undo : Nat := 52
abbrev m_X4_count : Nat := 53
abbrev m_X4_layer : Nat := 54
abbrev m_X4_ash : Nat := 55
abbrev m_X4_cost : Nat := 56
abbrev m_X4_years : Nat := 57
abbrev m_X4_age : Nat := 58
abbrev m_X4_offset : Nat := 59
abbrev m_X4_total : Nat := 60
abbrev m_X4_ways : Nat := 61
abbrev m_X4_bound : Nat := 62
abbrev m_X4_without : Nat := 63
abbrev m_X4_widen : Nat := 64
abbrev m_X4_costWith : Nat := 65
abbrev m_X4_beginChange : Nat := 66
abbrev m_X4_isLayer : Nat := 67
abbrev m_X4_isPlace : Nat := 68
abbrev m_X4_isAsh : Nat := 69
abbrev m_X4_isAshOfRange : Nat := 70
abbrev m_X4_isWithin : Nat := 71
abbrev m_X4_leastProperty : Nat := 72
abbrev m_X4_mostProperty : Nat := 73
abbrev m_X4_costOrNotFound : Nat := 74
abbrev m_X6_cell : Nat := 75
abbrev m_X6_builds : Nat := 76
abbrev m_X6_holds : Nat := 77
def tblL : List (List (Nat × List (Nat × AMI))) := [tb_X0_takeAll, tb_X0_takeLayersAndAshes, tb_X0_layerProperties, tb_X0_ashProperties, tb_X0_insertLayer, tb_X0_deleteLayer, tb_X0_insertAsh, tb_X0_deleteAsh, tb_X0_ashAt, tb_X0_thicknessBetween, tb_X0_layersOfKind, tb_X0_leastOwn, tb_X0_mostOwn, tb_X0_mostYears, tb_X0_ownCost, tb_X0_missingCost, tb_X0_ashCost, tb_X0_fitsWith, tb_X0_insertAt, tb_X0_deleteAt, tb_X1_keep, tb_X1_restore, tb_X2_forget, tb_X2_hasCount, tb_X2_leastCost, tb_X2_offsetOf, tb_X2_layersWith, tb_X2_allMissing, tb_X2_allOffsets, tb_X2_leastWithoutAsh, tb_X2_leastWithAsh, tb_X2_leastAge, tb_X2_greatestAge, tb_X2_costThrough, tb_X2_numberOfWays, tb_X2_countWays, tb_X2_handOnWays, tb_X2_makeBelow, tb_X2_makeAbove, tb_X2_clearRow, tb_X2_addAshCosts, tb_X2_addOwnCosts, tb_X2_addMissingCosts, tb_X2_costFrom, tb_X2_followBest, tb_X2_chooseYears, tb_X4_addLayer, tb_X4_removeLayer, tb_X4_setLayer, tb_X4_addAsh, tb_X4_removeAsh, tb_X4_set, tb_X4_undo, tb_X4_count, tb_X4_layer, tb_X4_ash, tb_X4_cost, tb_X4_years, tb_X4_age, tb_X4_offset, tb_X4_total, tb_X4_ways, tb_X4_bound, tb_X4_without, tb_X4_widen, tb_X4_costWith, tb_X4_beginChange, tb_X4_isLayer, tb_X4_isPlace, tb_X4_isAsh, tb_X4_isAshOfRange, tb_X4_isWithin, tb_X4_leastProperty, tb_X4_mostProperty, tb_X4_costOrNotFound, tb_X6_cell, tb_X6_builds, tb_X6_holds, tb_law]
def tbl (y : Nat) : List (Nat × List (Nat × AMI)) := tblL.getD y []
def NMs : Nat := 78
def mdL : List (MethodName × ByteArray × Nat × Option FieldType × Bool × Nat × Nat) := [
  (yX0_takeAll, cX0_takeAll, 2, none, false, 2, 0),
  (yX0_takeLayersAndAshes, cX0_takeLayersAndAshes, 2, none, false, 2, 0),
  (yX0_layerProperties, cX0_layerProperties, 2, (some (.array .int)), false, 2, 0),
  (yX0_ashProperties, cX0_ashProperties, 2, (some (.array .int)), false, 2, 0),
  (yX0_insertLayer, cX0_insertLayer, 6, none, false, 5, 0),
  (yX0_deleteLayer, cX0_deleteLayer, 4, none, false, 2, 0),
  (yX0_insertAsh, cX0_insertAsh, 6, (some .int), false, 4, 0),
  (yX0_deleteAsh, cX0_deleteAsh, 2, none, false, 2, 0),
  (yX0_ashAt, cX0_ashAt, 3, (some .int), false, 2, 0),
  (yX0_thicknessBetween, cX0_thicknessBetween, 5, (some .int), false, 3, 0),
  (yX0_layersOfKind, cX0_layersOfKind, 4, (some .int), false, 2, 0),
  (yX0_leastOwn, cX0_leastOwn, 2, (some .int), false, 2, 0),
  (yX0_mostOwn, cX0_mostOwn, 2, (some .int), false, 2, 0),
  (yX0_mostYears, cX0_mostYears, 2, (some .int), false, 2, 0),
  (yX0_ownCost, cX0_ownCost, 3, (some .int), false, 3, 0),
  (yX0_missingCost, cX0_missingCost, 2, (some .int), false, 2, 0),
  (yX0_ashCost, cX0_ashCost, 4, (some .int), false, 3, 0),
  (yX0_fitsWith, cX0_fitsWith, 6, (some .boolean), false, 2, 0),
  (yX0_insertAt, cX0_insertAt, 5, none, true, 4, 0),
  (yX0_deleteAt, cX0_deleteAt, 4, none, true, 3, 0),
  (yX1_keep, cX1_keep, 2, none, false, 2, 1),
  (yX1_restore, cX1_restore, 2, none, false, 2, 1),
  (yX2_forget, cX2_forget, 1, none, false, 1, 2),
  (yX2_hasCount, cX2_hasCount, 1, (some .boolean), false, 1, 2),
  (yX2_leastCost, cX2_leastCost, 1, (some .int), false, 1, 2),
  (yX2_offsetOf, cX2_offsetOf, 2, (some .int), false, 2, 2),
  (yX2_layersWith, cX2_layersWith, 5, (some .int), false, 3, 2),
  (yX2_allMissing, cX2_allMissing, 3, (some .int), false, 1, 2),
  (yX2_allOffsets, cX2_allOffsets, 3, (some .int), false, 1, 2),
  (yX2_leastWithoutAsh, cX2_leastWithoutAsh, 4, (some .int), false, 2, 2),
  (yX2_leastWithAsh, cX2_leastWithAsh, 8, (some .int), false, 4, 2),
  (yX2_leastAge, cX2_leastAge, 5, (some .int), false, 3, 2),
  (yX2_greatestAge, cX2_greatestAge, 5, (some .int), false, 3, 2),
  (yX2_costThrough, cX2_costThrough, 3, (some .int), false, 3, 2),
  (yX2_numberOfWays, cX2_numberOfWays, 1, (some .int), false, 1, 2),
  (yX2_countWays, cX2_countWays, 3, (some .int), false, 1, 2),
  (yX2_handOnWays, cX2_handOnWays, 9, none, false, 3, 2),
  (yX2_makeBelow, cX2_makeBelow, 2, none, false, 1, 2),
  (yX2_makeAbove, cX2_makeAbove, 2, none, false, 1, 2),
  (yX2_clearRow, cX2_clearRow, 4, none, false, 3, 2),
  (yX2_addAshCosts, cX2_addAshCosts, 5, none, false, 3, 2),
  (yX2_addOwnCosts, cX2_addOwnCosts, 8, none, false, 3, 2),
  (yX2_addMissingCosts, cX2_addMissingCosts, 8, none, false, 4, 2),
  (yX2_costFrom, cX2_costFrom, 5, (some .int), false, 4, 2),
  (yX2_followBest, cX2_followBest, 2, none, false, 1, 2),
  (yX2_chooseYears, cX2_chooseYears, 8, none, false, 3, 2),
  (yX4_addLayer, cX4_addLayer, 5, (some .int), false, 5, 4),
  (yX4_removeLayer, cX4_removeLayer, 2, (some .int), false, 2, 4),
  (yX4_setLayer, cX4_setLayer, 6, (some .int), false, 4, 4),
  (yX4_addAsh, cX4_addAsh, 4, (some .int), false, 4, 4),
  (yX4_removeAsh, cX4_removeAsh, 2, (some .int), false, 2, 4),
  (yX4_set, cX4_set, 4, (some .int), false, 3, 4),
  (yX4_undo, cX4_undo, 1, (some .int), false, 1, 4),
  (yX4_count, cX4_count, 2, (some .int), false, 2, 4),
  (yX4_layer, cX4_layer, 3, (some .int), false, 3, 4),
  (yX4_ash, cX4_ash, 3, (some .int), false, 3, 4),
  (yX4_cost, cX4_cost, 1, (some .int), false, 1, 4),
  (yX4_years, cX4_years, 3, (some .int), false, 3, 4),
  (yX4_age, cX4_age, 2, (some .int), false, 2, 4),
  (yX4_offset, cX4_offset, 2, (some .int), false, 2, 4),
  (yX4_total, cX4_total, 2, (some .int), false, 2, 4),
  (yX4_ways, cX4_ways, 1, (some .int), false, 1, 4),
  (yX4_bound, cX4_bound, 5, (some .int), false, 4, 4),
  (yX4_without, cX4_without, 2, (some .int), false, 2, 4),
  (yX4_widen, cX4_widen, 3, (some .int), false, 1, 4),
  (yX4_costWith, cX4_costWith, 4, (some .int), false, 4, 4),
  (yX4_beginChange, cX4_beginChange, 1, none, false, 1, 4),
  (yX4_isLayer, cX4_isLayer, 2, (some .boolean), false, 2, 4),
  (yX4_isPlace, cX4_isPlace, 2, (some .boolean), false, 2, 4),
  (yX4_isAsh, cX4_isAsh, 2, (some .boolean), false, 2, 4),
  (yX4_isAshOfRange, cX4_isAshOfRange, 4, (some .boolean), false, 4, 4),
  (yX4_isWithin, cX4_isWithin, 3, (some .boolean), true, 3, 4),
  (yX4_leastProperty, cX4_leastProperty, 1, (some .int), true, 1, 4),
  (yX4_mostProperty, cX4_mostProperty, 1, (some .int), true, 1, 4),
  (yX4_costOrNotFound, cX4_costOrNotFound, 1, (some .int), true, 1, 4),
  (yL_cell, cL_cell, 2, (some .int), true, 2, 6),
  (yL_builds, cL_builds, 6, (some .int), true, 2, 6),
  (yL_holds, cL_holds, 10, (some .boolean), true, 2, 6)]
def mdD : MethodName × ByteArray × Nat × Option FieldType × Bool × Nat × Nat := (yX0_ashAt, ⟨#[]⟩, 0, none, false, 0, 9)
abbrev mD (y : Nat) : MethodName × ByteArray × Nat × Option FieldType × Bool × Nat × Nat := mdL.getD y mdD
abbrev mN (y : Nat) : MethodName := (mD y).1
abbrev mB (y : Nat) : ByteArray := (mD y).2.1
abbrev mL (y : Nat) : Nat := (mD y).2.2.1
abbrev mR (y : Nat) : Option FieldType := (mD y).2.2.2.1
abbrev mS (y : Nat) : Bool := (mD y).2.2.2.2.1
abbrev mA (y : Nat) : Nat := (mD y).2.2.2.2.2.1
abbrev mC (y : Nat) : Nat := (mD y).2.2.2.2.2.2
def RXn (c : Nat) : String := match c with
  | 0 => RX0
  | 1 => RX1
  | 2 => RX2
  | 3 => RX3
  | 4 => RX4
  | 5 => RX5
  | _ => RL
def TXn (c : Nat) : u_T := match c with
  | 0 => TX0
  | 1 => TX1
  | 2 => TX2
  | 3 => TX3
  | 4 => TX4
  | _ => TX5
/-- the tables' words that every call may take along -/
def BG : List Jvm.Cond := lw_tbl.filter goodWord
theorem bg_in {w : Jvm.Cond} (h : w ∈ BG) : w ∈ lw_tbl := (List.mem_filter.mp h).1
theorem bg_of {w : Jvm.Cond} (i : Nat) (h : lw_tbl[i]? = some w) (hg : goodWord w = true) : w ∈ BG := List.mem_filter.mpr ⟨List.mem_of_getElem? h, hg⟩
theorem bg_good : GoodIn BG BG := fun w h => ⟨h, good_of_word (List.mem_filter.mp h).2⟩
/-- a row of a list of places and words -/
def rowOk (q : Nat × Jvm.Cond) : Bool := decide (lw_tbl[q.1]? = some q.2) && goodWord q.2
theorem rowOk_in {q : Nat × Jvm.Cond} (h : rowOk q = true) : q.2 ∈ BG := by
  unfold rowOk at h
  rw [Bool.and_eq_true, decide_eq_true_eq] at h
  exact bg_of q.1 h.1 h.2
theorem rowsOk_in {l : List (Nat × Jvm.Cond)} (h : l.all rowOk = true) : ∀ q ∈ l, q.2 ∈ BG := fun q hq => rowOk_in (List.all_eq_true.mp h q hq)
def flL : List (Nat × Nat × Nat × Nat × Nat) := [(39, (0, 9, 0, 0)), (40, (0, 15, 0, 1)), (42, (0, 18, 0, 2)), (44, (0, 21, 0, 3)), (47, (0, 24, 0, 4)), (49, (0, 27, 0, 5)), (50, (0, 30, 0, 6)), (53, (0, 33, 0, 7)), (56, (0, 37, 0, 8)), (88, (1, 11, 1, 0)), (89, (1, 18, 1, 1)), (90, (1, 22, 1, 2)), (129, (2, 9, 2, 0)), (130, (2, 17, 2, 1)), (131, (2, 20, 2, 2)), (132, (2, 23, 2, 3)), (133, (2, 27, 2, 4)), (134, (2, 30, 2, 5)), (135, (2, 33, 2, 6)), (136, (2, 36, 2, 7)), (137, (2, 39, 2, 8)), (139, (2, 42, 2, 9)), (141, (2, 45, 2, 10)), (143, (2, 48, 2, 11)), (144, (2, 52, 2, 12)), (145, (2, 56, 2, 13)), (146, (2, 59, 2, 14)), (45, (2, 66, 0, 3)), (48, (2, 71, 0, 4)), (55, (2, 74, 0, 7)), (41, (2, 77, 0, 1)), (58, (2, 80, 0, 8)), (52, (2, 105, 0, 6)), (43, (2, 146, 0, 2)), (178, (4, 10, 4, 0)), (179, (4, 19, 4, 1)), (181, (4, 35, 4, 3)), (54, (4, 39, 0, 7)), (57, (4, 79, 0, 8)), (51, (4, 92, 0, 6)), (91, (4, 106, 1, 2)), (138, (4, 132, 2, 8)), (140, (4, 135, 2, 9)), (142, (4, 141, 2, 10)), (46, (4, 168, 0, 3))]
def flW (q : Nat × Nat × Nat × Nat) : Jvm.Cond := .fieldLink (RXn q.1) q.2.1 (TXn q.2.2.1 q.2.2.2).1 (TXn q.2.2.1 q.2.2.2).2.1 (TXn q.2.2.1 q.2.2.2).2.2.1
set_option maxRecDepth 100000 in
theorem flL_ok : ∀ q ∈ flL, flW q.2 ∈ BG := by
  have h : flL.all (fun q => rowOk (q.1, flW q.2)) = true := by decide +kernel
  exact fun q hq => rowOk_in (List.all_eq_true.mp h q hq)
def mlL : List (Nat × Nat × Nat × Nat) := [(214, (0, 40, 1)), (270, (0, 50, 18)), (232, (0, 54, 8)), (236, (0, 58, 7)), (240, (0, 62, 19)), (418, (0, 72, 11)), (419, (0, 75, 13)), (210, (1, 25, 0)), (314, (2, 62, 37)), (491, (2, 83, 25)), (398, (2, 92, 38)), (402, (2, 95, 33)), (331, (2, 108, 8)), (333, (2, 111, 16)), (465, (2, 114, 35)), (323, (2, 118, 39)), (327, (2, 122, 40)), (469, (2, 126, 36)), (345, (2, 137, 11)), (349, (2, 140, 12)), (353, (2, 143, 14)), (365, (2, 149, 15)), (318, (2, 152, 13)), (341, (2, 155, 41)), (357, (2, 159, 42)), (369, (2, 163, 44)), (361, (2, 166, 43)), (373, (2, 170, 45)), (199, (4, 43, 71)), (202, (4, 47, 66)), (446, (4, 50, 4)), (195, (4, 54, 67)), (228, (4, 58, 5)), (247, (4, 62, 72)), (250, (4, 66, 73)), (253, (4, 69, 2)), (261, (4, 73, 70)), (265, (4, 76, 8)), (266, (4, 82, 6)), (277, (4, 86, 69)), (281, (4, 89, 7)), (286, (4, 109, 21)), (224, (4, 112, 22)), (294, (4, 115, 9)), (298, (4, 119, 10)), (508, (4, 122, 3)), (310, (4, 125, 23)), (378, (4, 129, 24)), (386, (4, 138, 68)), (503, (4, 144, 25)), (479, (4, 147, 26)), (483, (4, 150, 27)), (487, (4, 153, 28)), (461, (4, 156, 34)), (516, (4, 162, 31)), (520, (4, 165, 32)), (394, (4, 171, 29)), (406, (4, 174, 74)), (414, (4, 177, 17)), (428, (4, 180, 30)), (206, (4, 190, 20)), (434, (6, 9, 75)), (442, (6, 15, 46)), (257, (6, 21, 49)), (450, (6, 25, 51)), (306, (6, 29, 56)), (457, (6, 33, 61)), (410, (6, 36, 64)), (382, (6, 39, 58)), (475, (6, 43, 60)), (495, (6, 46, 57)), (302, (6, 49, 54)), (290, (6, 52, 53)), (499, (6, 55, 59)), (504, (6, 58, 55)), (390, (6, 61, 63)), (512, (6, 64, 62)), (439, (6, 68, 76)), (454, (6, 72, 77)), (273, (6, 76, 50)), (424, (6, 79, 65)), (282, (6, 82, 52)), (243, (6, 85, 48)), (191, (6, 88, 47))]
def mlW (q : Nat × Nat × Nat) : Jvm.Cond := .methodLink (RXn q.1) q.2.1 (mN q.2.2)
set_option maxRecDepth 100000 in
theorem mlL_ok : ∀ q ∈ mlL, mlW q.2 ∈ BG := by
  have h : mlL.all (fun q => rowOk (q.1, mlW q.2)) = true := by decide +kernel
  exact fun q hq => rowOk_in (List.all_eq_true.mp h q hq)
def klL : List (Nat × Nat × Nat × Int) := [(340, (0, 71, 268435456)), (332, (2, 65, 268435456)), (473, (2, 136, 1000000)), (409, (4, 193, 268435456)), (437, (6, 7, 15485959)), (438, (6, 8, 2147483647))]
def klW (q : Nat × Nat × Int) : Jvm.Cond := .constant (RXn q.1) q.2.1 (Int32.ofInt q.2.2)
set_option maxRecDepth 100000 in
theorem klL_ok : ∀ q ∈ klL, klW q.2 ∈ BG := by
  have h : klL.all (fun q => rowOk (q.1, klW q.2)) = true := by decide +kernel
  exact fun q hq => rowOk_in (List.all_eq_true.mp h q hq)
def libN (o : Nat) : MethodName := match o with
  | 33 => Lib.Math.min.name
  | 34 => Lib.Math.max.name
  | 35 => Lib.Math.abs.name
  | 29 => arraycopyName
  | _ => arraycopyName
def mmL : List (Nat × Nat × Nat × Nat) := [(218, (0, 44, 29)), (337, (0, 66, 35)), (420, (0, 78, 33)), (421, (0, 82, 34)), (221, (1, 29, 33)), (433, (2, 87, 35)), (322, (2, 99, 33)), (432, (2, 102, 34)), (474, (2, 130, 29))]
def mmW (q : Nat × Nat × Nat) : Jvm.Cond := .methodLink (RXn q.1) q.2.1 (libN q.2.2)
set_option maxRecDepth 100000 in
theorem mmL_ok : ∀ q ∈ mmL, mmW q.2 ∈ BG := by
  have h : mmL.all (fun q => rowOk (q.1, mmW q.2)) = true := by decide +kernel
  exact fun q hq => rowOk_in (List.all_eq_true.mp h q hq)
def mwL : List (Nat × Nat × Nat × Nat) := [(213, 19, 211, 212), (217, 19, 215, 216), (256, 19, 254, 255), (511, 19, 509, 510), (449, 19, 447, 448), (231, 19, 229, 230), (269, 19, 267, 268), (239, 19, 237, 238), (235, 19, 233, 234), (297, 19, 295, 296), (301, 19, 299, 300), (348, 19, 346, 347), (352, 19, 350, 351), (321, 19, 319, 320), (356, 19, 354, 355), (368, 19, 366, 367), (336, 19, 334, 335), (417, 19, 415, 416), (272, 19, 271, 0), (242, 19, 241, 0), (209, 20, 207, 208), (289, 20, 287, 288), (227, 22, 225, 226), (313, 22, 311, 312), (381, 22, 379, 380), (494, 22, 492, 493), (482, 22, 480, 481), (486, 22, 484, 485), (490, 22, 488, 489), (397, 22, 395, 396), (431, 22, 429, 430), (519, 22, 517, 518), (523, 22, 521, 522), (405, 22, 404, 14), (464, 22, 462, 463), (468, 22, 467, 15), (472, 22, 471, 16), (317, 22, 316, 4), (401, 22, 400, 13), (326, 22, 325, 5), (330, 22, 329, 6), (344, 22, 343, 7), (360, 22, 359, 8), (364, 22, 363, 9), (372, 22, 371, 10), (376, 22, 375, 11), (445, 18, 443, 444), (194, 18, 192, 193), (246, 18, 244, 245), (260, 18, 258, 259), (276, 18, 274, 275), (453, 18, 451, 452), (285, 18, 283, 284), (293, 18, 291, 292), (305, 18, 303, 304), (507, 18, 505, 506), (309, 18, 307, 308), (498, 18, 496, 497), (385, 18, 383, 384), (502, 18, 500, 501), (478, 18, 476, 477), (460, 18, 458, 459), (515, 18, 513, 514), (393, 18, 391, 392), (413, 18, 411, 412), (427, 18, 425, 426), (205, 18, 204, 1), (198, 18, 197, 0), (389, 18, 388, 12), (280, 18, 279, 3), (264, 18, 263, 2), (201, 18, 200, 0), (249, 18, 248, 0), (252, 18, 251, 0), (408, 18, 407, 0), (436, 17, 435, 0), (441, 17, 440, 0), (456, 17, 455, 0)]
abbrev codeW (y : Nat) : Jvm.Cond := .code (mN y) (mB y) (mL y) (mR y)
def mwOk (y : Nat) : Bool := match mwL[y]? with
  | some (_, b, d, f) => rowOk (b, .initialized (mN y).cls) && (if mS y = true then rowOk (d, .static (mN y)) else (rowOk (d, .instanceMethod (mN y)) && rowOk (f, .selects (mN y).cls (mN y) (mN y)))) && decide ((mN y).cls = RXn (mC y) ∧ (mN y).cls ≠ "java/lang/invoke/MethodHandle" ∧ (mN y).cls ≠ "java/lang/invoke/VarHandle" ∧ (parseMethodDescriptor (mN y).desc).map (fun q => q.parameters.length) = some (mA y - (if mS y = true then 0 else 1))) && plainName (mN y).cls && Nat.ble 1 (mA y + (if mS y = true then 1 else 0)) && Nat.ble (mL y) 11 && Nat.ble (mA y) (mL y) && Nat.blt (mC y) 7
  | none => false
set_option maxRecDepth 100000 in
theorem mw_ok0 : ∀ y, 0 ≤ y → y < 36 → mwOk y = true := by
  have h : ((List.range 36).map (fun k => k + 0)).all mwOk = true := by decide +kernel
  intro y h1 h2
  exact List.all_eq_true.mp h y (List.mem_map.mpr ⟨y - 0, List.mem_range.mpr (by omega), by omega⟩)
set_option maxRecDepth 100000 in
theorem mw_ok1 : ∀ y, 36 ≤ y → y < 72 → mwOk y = true := by
  have h : ((List.range 36).map (fun k => k + 36)).all mwOk = true := by decide +kernel
  intro y h1 h2
  exact List.all_eq_true.mp h y (List.mem_map.mpr ⟨y - 36, List.mem_range.mpr (by omega), by omega⟩)
set_option maxRecDepth 100000 in
theorem mw_ok2 : ∀ y, 72 ≤ y → y < 78 → mwOk y = true := by
  have h : ((List.range 6).map (fun k => k + 72)).all mwOk = true := by decide +kernel
  intro y h1 h2
  exact List.all_eq_true.mp h y (List.mem_map.mpr ⟨y - 72, List.mem_range.mpr (by omega), by omega⟩)
theorem mw_ok {y : Nat} (h : y < 78) : mwOk y = true := by
  rcases (show (0 ≤ y ∧ y < 36) ∨ (36 ≤ y ∧ y < 72) ∨ (72 ≤ y ∧ y < 78) by omega) with ⟨a, b⟩ | ⟨a, b⟩ | ⟨a, b⟩
  · exact mw_ok0 y a b
  · exact mw_ok1 y a b
  · exact mw_ok2 y a b
set_option maxRecDepth 100000 in
theorem cw_l0 : [213, 217, 256, 511, 449, 231, 269, 239, 235, 297, 301, 348, 352, 321, 356, 368, 336, 417, 272, 242, 209, 289, 227, 313, 381, 494, 482, 486, 490, 397, 431, 519, 523, 405, 464, 468].map (fun i => lw_tbl[i]?) = [0, 1, 2, 3, 4, 5, 6, 7, 8, 9, 10, 11, 12, 13, 14, 15, 16, 17, 18, 19, 20, 21, 22, 23, 24, 25, 26, 27, 28, 29, 30, 31, 32, 33, 34, 35].map (fun y => some (codeW y)) := rfl
set_option maxRecDepth 100000 in
theorem cw_l1 : [472, 317, 401, 326, 330, 344, 360, 364, 372, 376, 445, 194, 246, 260, 276, 453, 285, 293, 305, 507, 309, 498, 385, 502, 478, 460, 515, 393, 413, 427, 205, 198, 389, 280, 264, 201].map (fun i => lw_tbl[i]?) = [36, 37, 38, 39, 40, 41, 42, 43, 44, 45, 46, 47, 48, 49, 50, 51, 52, 53, 54, 55, 56, 57, 58, 59, 60, 61, 62, 63, 64, 65, 66, 67, 68, 69, 70, 71].map (fun y => some (codeW y)) := rfl
set_option maxRecDepth 100000 in
theorem cw_l2 : [249, 252, 408, 436, 441, 456].map (fun i => lw_tbl[i]?) = [72, 73, 74, 75, 76, 77].map (fun y => some (codeW y)) := rfl
theorem cw_of {ps ys : List Nat} (h : ps.map (fun i => lw_tbl[i]?) = ys.map (fun y => some (codeW y))) {y : Nat} (hy : y ∈ ys) : codeW y ∈ BG := by
  obtain ⟨k, hk⟩ := List.getElem?_of_mem hy
  have h1 : (ys.map (fun y => some (codeW y)))[k]? = some (some (codeW y)) := by rw [List.getElem?_map, hk]; rfl
  rw [← h, List.getElem?_map] at h1
  cases hp : ps[k]? with
  | none => rw [hp] at h1; cases h1
  | some i =>
    rw [hp] at h1
    exact bg_of i (Option.some.inj h1) rfl
theorem cw_i0 : ∀ k, k < 36 → 0 + k ∈ ([0, 1, 2, 3, 4, 5, 6, 7, 8, 9, 10, 11, 12, 13, 14, 15, 16, 17, 18, 19, 20, 21, 22, 23, 24, 25, 26, 27, 28, 29, 30, 31, 32, 33, 34, 35] : List Nat) := by decide +kernel
theorem cw_i1 : ∀ k, k < 36 → 36 + k ∈ ([36, 37, 38, 39, 40, 41, 42, 43, 44, 45, 46, 47, 48, 49, 50, 51, 52, 53, 54, 55, 56, 57, 58, 59, 60, 61, 62, 63, 64, 65, 66, 67, 68, 69, 70, 71] : List Nat) := by decide +kernel
theorem cw_i2 : ∀ k, k < 6 → 72 + k ∈ ([72, 73, 74, 75, 76, 77] : List Nat) := by decide +kernel
theorem cw_ok {y : Nat} (h : y < 78) : codeW y ∈ BG := by
  rcases (show (0 ≤ y ∧ y < 36) ∨ (36 ≤ y ∧ y < 72) ∨ (72 ≤ y ∧ y < 78) by omega) with h | h | h
  · exact cw_of cw_l0 (by have hk := cw_i0 (y - 0) (by omega); rwa [show 0 + (y - 0) = y by omega] at hk)
  · exact cw_of cw_l1 (by have hk := cw_i1 (y - 36) (by omega); rwa [show 36 + (y - 36) = y by omega] at hk)
  · exact cw_of cw_l2 (by have hk := cw_i2 (y - 72) (by omega); rwa [show 72 + (y - 72) = y by omega] at hk)
set_option maxRecDepth 100000 in
theorem uw0 : ∀ w ∈ wsX00, w ∈ BG := by
  have h : ([59, 61, 63, 65, 67, 69, 71, 73, 75].zip wsX00).all rowOk = true := by decide +kernel
  have e : ([59, 61, 63, 65, 67, 69, 71, 73, 75].zip wsX00).map Prod.snd = wsX00 := by decide +kernel
  intro w hw
  rw [← e] at hw
  obtain ⟨q, hq, rfl⟩ := List.mem_map.mp hw
  exact rowsOk_in h q hq
set_option maxRecDepth 100000 in
theorem uw1 : ∀ w ∈ wsX10, w ∈ BG := by
  have h : ([92, 94, 96].zip wsX10).all rowOk = true := by decide +kernel
  have e : ([92, 94, 96].zip wsX10).map Prod.snd = wsX10 := by decide +kernel
  intro w hw
  rw [← e] at hw
  obtain ⟨q, hq, rfl⟩ := List.mem_map.mp hw
  exact rowsOk_in h q hq
set_option maxRecDepth 100000 in
theorem uw2 : ∀ w ∈ wsX20, w ∈ BG := by
  have h : ([147, 149, 151, 153, 155, 157, 159, 161, 163, 165, 167, 169, 171, 173, 175].zip wsX20).all rowOk = true := by decide +kernel
  have e : ([147, 149, 151, 153, 155, 157, 159, 161, 163, 165, 167, 169, 171, 173, 175].zip wsX20).map Prod.snd = wsX20 := by decide +kernel
  intro w hw
  rw [← e] at hw
  obtain ⟨q, hq, rfl⟩ := List.mem_map.mp hw
  exact rowsOk_in h q hq
set_option maxRecDepth 100000 in
theorem uw3 : ∀ w ∈ wsX30, w ∈ BG := by
  have h : ([111, 113, 115, 117].zip wsX30).all rowOk = true := by decide +kernel
  have e : ([111, 113, 115, 117].zip wsX30).map Prod.snd = wsX30 := by decide +kernel
  intro w hw
  rw [← e] at hw
  obtain ⟨q, hq, rfl⟩ := List.mem_map.mp hw
  exact rowsOk_in h q hq
set_option maxRecDepth 100000 in
theorem uw4 : ∀ w ∈ wsX40, w ∈ BG := by
  have h : ([182, 184, 186, 188].zip wsX40).all rowOk = true := by decide +kernel
  have e : ([182, 184, 186, 188].zip wsX40).map Prod.snd = wsX40 := by decide +kernel
  intro w hw
  rw [← e] at hw
  obtain ⟨q, hq, rfl⟩ := List.mem_map.mp hw
  exact rowsOk_in h q hq
end
section
/-! FIELDS, ARRAYS, CALLS of the twin beside the machine -/
theorem fld_some {k : Nat} {i : Int} {f : Nat} {x : (Nat × Int) ⊕ Int} (h : fldK k i f = some x) : ∃ q, clsK k = some q ∧ f < nfK k ∧ k < 36 ∧ vwCl[q]? = some (RXn q, TXn q, nfK k) := by
  unfold fldK at h
  split at h <;> first | (cases h; done) | exact ⟨_, rfl, by decide, by decide, rfl⟩
theorem fld_ref {k : Nat} {i : Int} {f : Nat} {r : Nat × Int} (h : fldK k i f = some (.inl r)) (h0 : 0 ≤ i) (h1 : i < cntK k) : okv (.inr r) := by
  unfold fldK at h
  split at h <;> first | (cases h; done) | (cases h; exact ⟨by decide, by decide⟩) | (cases h; exact ⟨h0, h1⟩)
theorem fld_slot {k : Nat} {i j : Int} {f : Nat} (h : fldK k i f = some (.inr j)) : j = (f : Int) := by
  unfold fldK at h
  split at h <;> first | (cases h; done) | (cases h; rfl)
theorem fld_int {k : Nat} {i j : Int} {f : Nat} (h : fldK k i f = some (.inr j)) {q : Nat} (hq : clsK k = some q) : (TXn q f).2.2.2 = false := by
  unfold fldK at h
  split at h <;> first | (cases h; done) | (cases hq; rfl)
theorem cls_lt {k q : Nat} (h : clsK k = some q) : k < 36 ∧ q < 6 := by
  unfold clsK at h
  split at h <;> first | (cases h; done) | (cases h; exact ⟨by decide, by decide⟩)
theorem cls_vw {k q : Nat} (h : clsK k = some q) : vwCl[q]? = some (RXn q, TXn q, nfK k) := by
  unfold clsK at h
  split at h <;> first | (cases h; done) | (cases h; rfl)
theorem lenI_of {k : Nat} {n : Int} (h : lenI k = some n) : clsK k = none ∧ k < 36 ∧ 0 ≤ n ∧ n ≤ 30651 := by
  unfold lenI at h
  split at h <;> first | (cases h; exact ⟨rfl, by decide, by decide, by decide⟩) | cases h
theorem lenC_of {k : Nat} {n : Int} (h : lenC k = some n) : clsK k = none ∧ lenI k = none ∧ k < 36 ∧ 0 ≤ n ∧ n ≤ 30651 := by
  unfold lenC at h
  split at h <;> first | (cases h; exact ⟨rfl, rfl, by decide, by decide, by decide⟩) | cases h
theorem lenR_of {k : Nat} {n : Int} (h : lenR k = some n) : clsK k = none ∧ lenI k = none ∧ lenC k = none ∧ k < 36 ∧ 0 ≤ n ∧ n ≤ 30651 ∧ ∀ j, 0 ≤ j → j < n → okv (.inr (refA k j)) := by
  unfold lenR at h
  split at h
  · cases h
    refine ⟨rfl, rfl, rfl, by decide, by decide, by decide, fun j h0 h1 => ?_⟩
    show 0 ≤ 2 + j ∧ 2 + j < 8
    omega
  · cases h
    refine ⟨rfl, rfl, rfl, by decide, by decide, by decide, fun j h0 h1 => ?_⟩
    show 0 ≤ j ∧ j < 51
    omega
  · cases h
    refine ⟨rfl, rfl, rfl, by decide, by decide, by decide, fun j h0 h1 => ?_⟩
    show 0 ≤ j ∧ j < 51
    omega
  · cases h
theorem cellE_O {ad : Nat → Int → Nat} {cy : Nat → ClassId} {σ : Sto} {k : Nat} {i : Int} {q : Nat} (h : clsK k = some q) : cellE ad cy σ k i = .inr (q, (List.range (nfK k)).map (fldV ad (σ k i) k i)) := by
  unfold cellE
  rw [h]
theorem cellE_I {ad : Nat → Int → Nat} {cy : Nat → ClassId} {σ : Sto} {k : Nat} {i : Int} {n : Int} (h : lenI k = some n) : cellE ad cy σ k i = .inl (cy 0, n.toNat, .inl (rowV (σ k i))) := by
  unfold cellE
  rw [(lenI_of h).1, h]
theorem cellE_C {ad : Nat → Int → Nat} {cy : Nat → ClassId} {σ : Sto} {k : Nat} {i : Int} {n : Int} (h : lenC k = some n) : cellE ad cy σ k i = .inl (cy 1, n.toNat, .inl (rowV (σ k i))) := by
  unfold cellE
  rw [(lenC_of h).1, (lenC_of h).2.1, h]
theorem cellE_R {ad : Nat → Int → Nat} {cy : Nat → ClassId} {σ : Sto} {k : Nat} {i : Int} {n : Int} (h : lenR k = some n) : cellE ad cy σ k i = .inl (cy (if k = 4 then 2 else 3), n.toNat, .inr (.inr (.inr (.inr (fun j => some (ad (refA k j).1 (refA k j).2)))))) := by
  unfold cellE
  rw [(lenR_of h).1, (lenR_of h).2.1, (lenR_of h).2.2.1, h]
theorem cls_facts {q : Nat} {C : String} {T : u_T} {N : Nat} (h : vwCl[q]? = some (C, T, N)) : (∀ w ∈ u_ws C T N, w ∈ BG) ∧ (∃ ty : Nat → FieldType, ∀ k, k < N → parseFieldDescriptor (T k).2.2.1 = some (ty k)) ∧ (∀ a, a < N → ∀ b, b < N → a ≠ b → (T a).2.1 ≠ (T b).2.1) := by
  match q, h with
  | 0, h => cases h; exact ⟨uw0, ⟨tyX0, tyX0_ok⟩, nmX0⟩
  | 1, h => cases h; exact ⟨uw1, ⟨tyX1, tyX1_ok⟩, nmX1⟩
  | 2, h => cases h; exact ⟨uw2, ⟨tyX2, tyX2_ok⟩, nmX2⟩
  | 3, h => cases h; exact ⟨uw3, ⟨tyX3, tyX3_ok⟩, nmX3⟩
  | 4, h => cases h; exact ⟨uw4, ⟨tyX4, tyX4_ok⟩, nmX4⟩
  | q + 5, h => simp [vwCl] at h
theorem okS_up {σz σ : Sto} (h : okS σz σ) {k : Nat} {i j v : Int} (hk : k < 36) (hv : inR v) : okS σz (upS σ k i j v) :=
  ⟨upS_in h.1 hv, fun k' i' hk' => by rw [upS_off (by intro e; cases e; omega)]; exact h.2 k' i' hk'⟩
theorem obj_set {ad : Nat → Int → Nat} {g : Int → Int} {k : Nat} {i : Int} {f n : Nat} {v j0 : Int} (h : fldK k i f = some (.inr j0)) : ((List.range n).map (fldV ad g k i)).set f (.int (Int32.ofInt v)) = (List.range n).map (fldV ad (fun j => if j = (f : Int) then v else g j) k i) := by
  apply List.ext_getElem?
  intro a
  by_cases ha : a = f
  · subst ha
    by_cases hn : a < n
    · rw [List.getElem?_set_self (by simpa using hn), List.getElem?_map, List.getElem?_range hn]
      simp [fldV, h]
    · rw [List.getElem?_eq_none (by simp; omega), List.getElem?_eq_none (by simp; omega)]
  · rw [List.getElem?_set_ne (Ne.symm ha), List.getElem?_map, List.getElem?_map]
    by_cases hn : a < n
    · rw [List.getElem?_range hn]
      have hne : ¬ (a : Int) = (f : Int) := by omega
      simp only [Option.map_some, fldV, if_neg hne]
    · rw [List.getElem?_eq_none (by simp; omega)]
      rfl
theorem row_set {g : Int → Int} {j v : Int} (h0 : 0 ≤ j) : upd (rowV g) j.toNat (Int32.ofInt v) = rowV (fun j' => if j' = j then v else g j') := by
  funext a
  unfold upd rowV
  dsimp only
  by_cases h : a = j.toNat
  · rw [if_pos h, if_pos (by omega)]
  · rw [if_neg h, if_neg (by omega)]
theorem row_at {g : Int → Int} {j : Int} (h0 : 0 ≤ j) : rowV g j.toNat = Int32.ofInt (g j) := by
  unfold rowV
  rw [Int.toNat_of_nonneg h0]
section AMF
variable {p : Program} {l : Launch} {e : Env} {R : Room} {s : State} {m : MethodId} {args : Array Value} {below : List Frame} {meth : Method} {c : Code} {cells slots : Nat} {Qw : State → Prop} {ad : Nat → Int → Nat} {cy : Nat → ClassId} {D : va_G} {A0 : Nat → Prop} {H0 : Heap} {nL : Nat} {cc : ByteArray} {pc : Nat} {ls st : List AV} {σ σz : Sto} {own : String}
theorem w_get {ci f nx idx : Nat} (hx : p.tables.exec = Jvm.exec) (hb : c.code = cc) (hts : ∀ w ∈ BG, w.before args s = true) (hown : s.vm.findClass own = some m.cls) (hK : va_K D vwCl (tysW cy) s) (hd : decode cc pc = .ok (.getfield idx, 3) ∧ nx = pc + 3) (hlink : (Jvm.Cond.fieldLink own idx (TXn ci f).1 (TXn ci f).2.1 (TXn ci f).2.2.1).before args s = true) (h : s_get (AMW p l e R s m args below meth c cells slots Qw ad cy D A0 H0 nL σz) ls st σ ci f nx) : (AMW p l e R s m args below meth c cells slots Qw ad cy D A0 H0 nL σz) pc ls st σ := by
  intro H locs lsl hP hS hl hls hst hσ
  obtain ⟨hd, rfl⟩ := hd
  unfold s_get at h
  split at h
  · rename_i k i st'
    have hok : 0 ≤ i ∧ i < cntK k := ok_head hst
    split at h
    · rename_i ck hck
      split at h
      · rename_i hce
        subst hce
        split at h
        · rename_i r hf
          obtain ⟨q, g1, g2, g3, g4⟩ := fld_some hf
          rw [hck] at g1
          cases g1
          obtain ⟨q0, hq0⟩ := ids_at g3 hok.1 hok.2
          refine va_get (ci := ck) (ref := (TXn ck f).1) hx hb hts (cls_facts g4).1 hown hK hP q0 ((cells_get hq0 σ).trans (by rw [cellE_O hck])) g4 f g2 hlink (fun x h => h) (v := .ref (ad r.1 r.2)) ?_ hd ?_
          · rw [List.getElem?_map, List.getElem?_range g2]
            simp [fldV, hf]
          · exact h H locs lsl hP hS hl hls (ok_cons (fld_ref hf hok.1 hok.2) (ok_tail hst)) hσ
        · rename_i j hf
          obtain ⟨q, g1, g2, g3, g4⟩ := fld_some hf
          rw [hck] at g1
          cases g1
          obtain ⟨q0, hq0⟩ := ids_at g3 hok.1 hok.2
          have hj := fld_slot hf
          subst hj
          refine va_get (ci := ck) (ref := (TXn ck f).1) hx hb hts (cls_facts g4).1 hown hK hP q0 ((cells_get hq0 σ).trans (by rw [cellE_O hck])) g4 f g2 hlink (fun x h => h) (v := .int (Int32.ofInt (σ k i f))) ?_ hd ?_
          · rw [List.getElem?_map, List.getElem?_range g2]
            simp [fldV, hf]
          · exact h (hσ.1 _ _ _) H locs lsl hP hS hl hls (ok_cons trivial (ok_tail hst)) hσ
        · exact h.elim
      · exact h.elim
    · exact h.elim
  · exact h.elim
theorem w_put {ci f nx idx lo : Nat} {ty : FieldType} (hx : p.tables.exec = Jvm.exec) (hb : c.code = cc) (hts : ∀ w ∈ BG, w.before args s = true) (hown : s.vm.findClass own = some m.cls) (hK : va_K D vwCl (tysW cy) s) (hD : ∀ σ, va_D A0 (cellsW ad cy σ)) (hd : decode cc pc = .ok (.putfield idx, 3) ∧ nx = pc + 3) (hlink : (Jvm.Cond.fieldLink own idx (TXn ci f).1 (TXn ci f).2.1 (TXn ci f).2.2.1).before args s = true) (hty : (lo = 0 ∧ parseFieldDescriptor (TXn ci f).2.2.1 = some .int) ∨ (lo ≠ 0 ∧ parseFieldDescriptor (TXn ci f).2.2.1 = some .boolean)) (h : s_put (AMW p l e R s m args below meth c cells slots Qw ad cy D A0 H0 nL σz) ls st σ ci f lo 0 nx) : (AMW p l e R s m args below meth c cells slots Qw ad cy D A0 H0 nL σz) pc ls st σ := by
  intro H locs lsl hP hS hl hls hst hσ
  obtain ⟨hd, rfl⟩ := hd
  unfold s_put at h
  split at h
  · rename_i v k i st'
    have hok : 0 ≤ i ∧ i < cntK k := ok_head (ok_tail hst)
    split at h
    · rename_i ck hck
      split at h
      · rename_i hce
        subst hce
        split at h
        · rename_i j hf
          obtain ⟨q, g1, g2, g3, g4⟩ := fld_some hf
          rw [hck] at g1
          cases g1
          obtain ⟨q0, hq0⟩ := ids_at g3 hok.1 hok.2
          obtain ⟨u1, ⟨ty0, u2⟩, u3⟩ := cls_facts g4
          have hj := fld_slot hf
          subst hj
          have h' : (if lo = 0 then inR v else (v = 0 ∨ v = 1)) ∧ (AMW p l e R s m args below meth c cells slots Qw ad cy D A0 H0 nL σz) (pc + 3) ls st' (upS σ k i f v) := by
            split at h
            · exact ⟨by rw [if_pos rfl]; exact h.1, h.2⟩
            · rename_i hlo
              exact ⟨by rw [if_neg (fun e => hlo e)]; exact h.1, h.2⟩
          obtain ⟨hv, h⟩ := h'
          have hvr : inR v := by
            split at hv
            · exact hv
            · omega
          have kk : ∀ (H1 : Heap) (locs1 : List Loc), va_P D vwCl ((cellsW ad cy σ).set q0 (ad k i, .inr (ck, ((List.range (nfK k)).map (fldV ad (σ k i) k i)).set f (.int (Int32.ofInt v))))) H1 → va_D A0 ((cellsW ad cy σ).set q0 (ad k i, .inr (ck, ((List.range (nfK k)).map (fldV ad (σ k i) k i)).set f (.int (Int32.ofInt v))))) → va_S A0 H0 H1 locs1 → W p l e R s m args below meth c H1 locs1 cells slots Qw (F0 m (pc + 3) lsl (st'.map (conc ad))) := by
            intro H1 locs1 hP1 _ hS1
            rw [obj_set hf, ← upS_row, ← cellE_O hck (σ := upS σ k i f v), cells_set hq0 (fun k' i' hne => upS_off hne)] at hP1
            exact h H1 locs1 lsl hP1 hS1 hl hls (ok_tail (ok_tail hst)) (okS_up hσ g3 hvr)
          have he := (cells_get (ad := ad) (cy := cy) hq0 σ).trans (by rw [cellE_O hck])
          rcases hty with ⟨hlo, hty⟩ | ⟨hlo, hty⟩
          · exact va_put (ci := ck) (ref := (TXn ck f).1) (v := .int (Int32.ofInt v)) hx hb hts u1 ty0 u2 u3 hown hK hP (hD σ) hS q0 he g4 f g2 hlink (fun x h => h) (fld_int hf hck) hty rfl rfl (by simpa using g2) hd kk
          · rw [if_neg hlo] at hv
            refine va_put (ci := ck) (ref := (TXn ck f).1) (v := .int (Int32.ofInt v)) hx hb hts u1 ty0 u2 u3 hown hK hP (hD σ) hS q0 he g4 f g2 hlink (fun x h => h) (fld_int hf hck) hty ?_ ?_ (by simpa using g2) hd kk
            · rcases hv with rfl | rfl <;> rfl
            · rcases hv with rfl | rfl <;> rfl
        · exact h.elim
      · exact h.elim
    · exact h.elim
  · exact h.elim
theorem w_iald {nx : Nat} (hx : p.tables.exec = Jvm.exec) (hb : c.code = cc) (hK : va_K D vwCl (tysW cy) s) (hd : decode cc pc = .ok (.iaload, 1) ∧ nx = pc + 1) (h : s_iald (AMW p l e R s m args below meth c cells slots Qw ad cy D A0 H0 nL σz) ls st σ nx) : (AMW p l e R s m args below meth c cells slots Qw ad cy D A0 H0 nL σz) pc ls st σ := by
  intro H locs lsl hP hS hl hls hst hσ
  obtain ⟨hd, rfl⟩ := hd
  unfold s_iald at h
  split at h
  · rename_i j k i st'
    have hok : 0 ≤ i ∧ i < cntK k := ok_head (ok_tail hst)
    split at h
    · rename_i n hn
      obtain ⟨-, g2, g3, g4⟩ := lenI_of hn
      obtain ⟨q0, hq0⟩ := ids_at g2 hok.1 hok.2
      obtain ⟨⟨h1, h2⟩, h⟩ := h
      refine va_iald hx hb hK hP q0 0 ((cells_get hq0 σ).trans (by rw [cellE_I hn])) rfl (oi_in h1 h2 (by omega)) hd ?_
      rw [oi_cl h1 (by omega), row_at h1]
      exact h (hσ.1 _ _ _) H locs lsl hP hS hl hls (ok_cons trivial (ok_tail (ok_tail hst))) hσ
    · exact h.elim
  · exact h.elim
theorem w_cald {nx : Nat} (hx : p.tables.exec = Jvm.exec) (hb : c.code = cc) (hK : va_K D vwCl (tysW cy) s) (hd : decode cc pc = .ok (.caload, 1) ∧ nx = pc + 1) (h : s_cald (AMW p l e R s m args below meth c cells slots Qw ad cy D A0 H0 nL σz) ls st σ nx) : (AMW p l e R s m args below meth c cells slots Qw ad cy D A0 H0 nL σz) pc ls st σ := by
  intro H locs lsl hP hS hl hls hst hσ
  obtain ⟨hd, rfl⟩ := hd
  unfold s_cald at h
  split at h
  · rename_i j k i st'
    have hok : 0 ≤ i ∧ i < cntK k := ok_head (ok_tail hst)
    split at h
    · rename_i n hn
      obtain ⟨-, -, g2, g3, g4⟩ := lenC_of hn
      obtain ⟨q0, hq0⟩ := ids_at g2 hok.1 hok.2
      obtain ⟨⟨h1, h2⟩, h⟩ := h
      refine va_cald hx hb hK hP q0 1 ((cells_get hq0 σ).trans (by rw [cellE_C hn])) rfl (oi_in h1 h2 (by omega)) hd ?_
      rw [oi_cl h1 (by omega), row_at h1]
      exact h (hσ.1 _ _ _) H locs lsl hP hS hl hls (ok_cons trivial (ok_tail (ok_tail hst))) hσ
    · exact h.elim
  · exact h.elim
theorem w_aald {nx : Nat} (hx : p.tables.exec = Jvm.exec) (hb : c.code = cc) (hK : va_K D vwCl (tysW cy) s) (hd : decode cc pc = .ok (.aaload, 1) ∧ nx = pc + 1) (h : s_aald (AMW p l e R s m args below meth c cells slots Qw ad cy D A0 H0 nL σz) ls st σ nx) : (AMW p l e R s m args below meth c cells slots Qw ad cy D A0 H0 nL σz) pc ls st σ := by
  intro H locs lsl hP hS hl hls hst hσ
  obtain ⟨hd, rfl⟩ := hd
  unfold s_aald at h
  split at h
  · rename_i j k i st'
    have hok : 0 ≤ i ∧ i < cntK k := ok_head (ok_tail hst)
    split at h
    · rename_i n hn
      obtain ⟨-, -, -, g2, g3, g4, g5⟩ := lenR_of hn
      obtain ⟨q0, hq0⟩ := ids_at g2 hok.1 hok.2
      obtain ⟨⟨h1, h2⟩, h⟩ := h
      have hin := oi_in h1 h2 (by omega : n ≤ 2147483647)
      have ha := (cells_get (ad := ad) (cy := cy) hq0 σ).trans (by rw [cellE_R hn])
      have hcl := oi_cl h1 (by omega : j ≤ 2147483647)
      have hlt : (Int32.ofInt j).toNatClampNeg < n.toNat := Nat.not_le.mp fun q => hin (Or.inr q)
      have ht : ∃ ty : FieldType, ty.isReference = true ∧ (tysW cy)[if k = 4 then 2 else 3]? = some (cy (if k = 4 then 2 else 3), ty) := by
        by_cases h4 : k = 4
        · rw [if_pos h4]
          exact ⟨_, rfl, rfl⟩
        · rw [if_neg h4]
          exact ⟨_, rfl, rfl⟩
      obtain ⟨ty, ht1, ht2⟩ := ht
      refine W.aald (v := .ref (ad (refA k j).1 (refA k j).2)) (ty := ty) hx hb (hP q0 _ ha) ((hK.2 _ _ ht2).1 n.toNat (fun a => va_rf (some (ad (refA k a).1 (refA k a).2)))) ht1 (fun q => by cases q) (by show ¬ (_ ∨ (arrV _ _ _).slots.size ≤ _); rw [arrV_size]; exact hin) (by show (arrV _ _ _).slots[_]? = _; rw [arrV_read _ _ hlt, hcl]; show some (Value.ref (ad (refA k (j.toNat : Int)).1 (refA k (j.toNat : Int)).2)) = _; rw [Int.toNat_of_nonneg h1]) rfl rfl hd ?_
      exact h H locs lsl hP hS hl hls (ok_cons (g5 j h1 h2) (ok_tail (ok_tail hst))) hσ
    · exact h.elim
  · exact h.elim
theorem w_iast {nx : Nat} (hx : p.tables.exec = Jvm.exec) (hb : c.code = cc) (hK : va_K D vwCl (tysW cy) s) (hD : ∀ σ, va_D A0 (cellsW ad cy σ)) (hd : decode cc pc = .ok (.iastore, 1) ∧ nx = pc + 1) (h : s_iast (AMW p l e R s m args below meth c cells slots Qw ad cy D A0 H0 nL σz) ls st σ nx) : (AMW p l e R s m args below meth c cells slots Qw ad cy D A0 H0 nL σz) pc ls st σ := by
  intro H locs lsl hP hS hl hls hst hσ
  obtain ⟨hd, rfl⟩ := hd
  unfold s_iast at h
  split at h
  · rename_i v j k i st'
    have hok : 0 ≤ i ∧ i < cntK k := ok_head (ok_tail (ok_tail hst))
    split at h
    · rename_i n hn
      obtain ⟨-, g2, g3, g4⟩ := lenI_of hn
      obtain ⟨q0, hq0⟩ := ids_at g2 hok.1 hok.2
      obtain ⟨⟨h1, h2, h3⟩, h⟩ := h
      refine va_iast hx hb hK hP (hD σ) hS q0 0 ((cells_get hq0 σ).trans (by rw [cellE_I hn])) rfl (oi_in h1 h2 (by omega)) hd (fun H1 locs1 hP1 _ hS1 => ?_)
      rw [oi_cl h1 (by omega), row_set h1, ← upS_row, ← cellE_I hn (σ := upS σ k i j v), cells_set hq0 (fun k' i' hne => upS_off hne)] at hP1
      exact h H1 locs1 lsl hP1 hS1 hl hls (ok_tail (ok_tail (ok_tail hst))) (okS_up hσ g2 h3)
    · exact h.elim
  · exact h.elim
theorem w_cast {nx : Nat} (hx : p.tables.exec = Jvm.exec) (hb : c.code = cc) (hK : va_K D vwCl (tysW cy) s) (hD : ∀ σ, va_D A0 (cellsW ad cy σ)) (hd : decode cc pc = .ok (.castore, 1) ∧ nx = pc + 1) (h : s_cast (AMW p l e R s m args below meth c cells slots Qw ad cy D A0 H0 nL σz) ls st σ nx) : (AMW p l e R s m args below meth c cells slots Qw ad cy D A0 H0 nL σz) pc ls st σ := by
  intro H locs lsl hP hS hl hls hst hσ
  obtain ⟨hd, rfl⟩ := hd
  unfold s_cast at h
  split at h
  · rename_i v j k i st'
    have hok : 0 ≤ i ∧ i < cntK k := ok_head (ok_tail (ok_tail hst))
    split at h
    · rename_i n hn
      obtain ⟨-, -, g2, g3, g4⟩ := lenC_of hn
      obtain ⟨q0, hq0⟩ := ids_at g2 hok.1 hok.2
      obtain ⟨⟨h1, h2, h3, h5⟩, h⟩ := h
      refine va_cast hx hb hK hP (hD σ) hS q0 1 ((cells_get hq0 σ).trans (by rw [cellE_C hn])) rfl (oi_in h1 h2 (by omega)) hd (fun H1 locs1 hP1 _ hS1 => ?_)
      have hv : vp_nar .char (Int32.ofInt v) = Int32.ofInt v := by
        rw [vp_nar_char]
        have := pk_char (Int32.ofInt v)
        rw [oi_nat h3]
        have e1 : ((nI v.toNat).toUInt32 % 65536).toInt32 = nI v.toNat := by
          rw [pk_char, pk_tn (by omega), Nat.mod_eq_of_lt (by omega)]
        have e2 := vp_nar_char (nI v.toNat)
        have e3 : vp_nar .char (nI v.toNat) = nI v.toNat := by
          have := (pk_charN (q := v.toNat) (by omega)).1
          unfold vp_nar
          rw [this]
        rw [← e2, e3]
      rw [hv, oi_cl h1 (by omega), row_set h1, ← upS_row, ← cellE_C hn (σ := upS σ k i j v), cells_set hq0 (fun k' i' hne => upS_off hne)] at hP1
      exact h H1 locs1 lsl hP1 hS1 hl hls (ok_tail (ok_tail (ok_tail hst))) (okS_up hσ g2 (by omega))
    · exact h.elim
  · exact h.elim
theorem row_cpy {g1 g2 : Int → Int} {sp dp n : Int} (h1 : 0 ≤ sp) (h2 : 0 ≤ dp) (h3 : 0 ≤ n) : va_cpy (rowV g1) (rowV g2) sp.toNat dp.toNat n.toNat = rowV (fun j => if dp ≤ j ∧ j < dp + n then g1 (sp + (j - dp)) else g2 j) := by
  funext a
  unfold va_cpy rowV
  dsimp only
  by_cases h : dp.toNat ≤ a ∧ a < dp.toNat + n.toNat
  · rw [if_pos h, if_pos (by omega)]
    congr 2
    omega
  · rw [if_neg h, if_neg (by omega)]
theorem sum8 {st : List AV} (h : st.length ≤ 8) : ((st.map (conc ad)).map fun v => v.category).sum ≤ 8 := by
  have : ∀ st : List AV, ((st.map (conc ad)).map fun v => v.category).sum = st.length := by
    intro st
    induction st with
    | nil => rfl
    | cons v st ih =>
      rw [List.map_cons, List.map_cons, List.sum_cons, ih, List.length_cons, cat1]
      omega
  rw [this]
  exact h
theorem w_copy {nx idx : Nat} (hx : p.tables.exec = Jvm.exec) (hb : c.code = cc) (hml : c.maxLocals = nL) (hown : s.vm.findClass own = some m.cls) (hK : va_K D vwCl (tysW cy) s) (hD : ∀ σ, va_D A0 (cellsW ad cy σ)) (hR : 1 ≤ R.frames ∧ 40 ≤ R.locals) (hlink : (Jvm.Cond.methodLink own idx arraycopyName).before args s = true) (hnat : (Jvm.Cond.native arraycopyName).before args s = true) (hstat : (Jvm.Cond.static arraycopyName).before args s = true) (hini : (Jvm.Cond.initialized "java/lang/System").before args s = true) (hd : decode cc pc = .ok (.invokestatic idx, 3) ∧ nx = pc + 3) (h : s_copy (AMW p l e R s m args below meth c cells slots Qw ad cy D A0 H0 nL σz) ls st σ nx) : (AMW p l e R s m args below meth c cells slots Qw ad cy D A0 H0 nL σz) pc ls st σ := by
  intro H locs lsl hP hS hl hls hst hσ
  obtain ⟨hd, rfl⟩ := hd
  unfold s_copy at h
  split at h
  · rename_i n dp k2 i2 sp k1 i1 st'
    have ok2 : 0 ≤ i2 ∧ i2 < cntK k2 := ok_head (ok_tail (ok_tail hst))
    have ok1 : 0 ≤ i1 ∧ i1 < cntK k1 := ok_head (ok_tail (ok_tail (ok_tail (ok_tail hst))))
    split at h
    · rename_i n1 n2 hn1 hn2
      split at h
      · rename_i h8
        obtain ⟨-, g2, g3, g4⟩ := lenI_of hn1
        obtain ⟨-, f2, f3, f4⟩ := lenI_of hn2
        obtain ⟨q0, hq0⟩ := ids_at g2 ok1.1 ok1.2
        obtain ⟨q1, hq1⟩ := ids_at f2 ok2.1 ok2.2
        obtain ⟨⟨h1, h2, h3, h4, h5⟩, h⟩ := h
        have z : ∀ x : Int, 0 ≤ x → x ≤ 2147483647 → ¬ Int32.ofInt x < 0 := fun x a b q => by
          rw [← oi_0, oi_lt (by omega) (by omega)] at q
          omega
        refine va_copyi (n0 := n1.toNat) (n1 := n2.toNat) (ty := .int) hx hb (hml.trans hl.1.symm) hown hlink hnat hstat hini hK hP (hD σ) hS q0 q1 0 0 ((cells_get hq0 σ).trans (by rw [cellE_I hn1])) ((cells_get hq1 σ).trans (by rw [cellE_I hn2])) rfl rfl rfl (z sp h1 (by omega)) (z dp h2 (by omega)) (z n h3 (by omega)) (by rw [oi_cl h1 (by omega), oi_cl h3 (by omega)]; omega) (by rw [oi_cl h2 (by omega), oi_cl h3 (by omega)]; omega) (fun _ _ => rfl) hR.1 ?_ hd (fun H1 locs1 hP1 _ hS1 => ?_)
        · have := sum8 (ad := ad) h8
          have e7 : nativeFrameWords "java/lang/System" "arraycopy" 5 = 7 := by decide +kernel
          rw [e7]
          omega
        · have e : (fun j => if dp ≤ j ∧ j < dp + n then σ k1 i1 (sp + (j - dp)) else σ k2 i2 j) = cpS σ k1 i1 sp k2 i2 dp n k2 i2 := by
            funext j
            simp [cpS]
          rw [oi_cl h1 (by omega), oi_cl h2 (by omega), oi_cl h3 (by omega), row_cpy h1 h2 h3, e, ← cellE_I hn2 (σ := cpS σ k1 i1 sp k2 i2 dp n), cells_set hq1 (fun k' i' hne => cpS_off hne)] at hP1
          exact h H1 locs1 lsl hP1 hS1 hl hls (ok_tail (ok_tail (ok_tail (ok_tail (ok_tail hst))))) ⟨cpS_in hσ.1, fun k' i' hk' => by rw [cpS_off (by intro e; cases e; omega)]; exact hσ.2 k' i' hk'⟩
      · exact h.elim
    · exact h.elim
  · exact h.elim
theorem w_min {nx idx : Nat} (hx : p.tables.exec = Jvm.exec) (hb : c.code = cc) (hml : c.maxLocals = nL) (hown : s.vm.findClass own = some m.cls) (hR : 1 ≤ R.frames ∧ 40 ≤ R.locals) (hC : cells ≤ R.cells ∧ slots ≤ R.slots) (hlink : (Jvm.Cond.methodLink own idx Lib.Math.min.name).before args s = true) (hstat : (Jvm.Cond.static Lib.Math.min.name).before args s = true) (hini : (Jvm.Cond.initialized "java/lang/Math").before args s = true) (hcode : (Jvm.Cond.code Lib.Math.min.name Lib.Math.min.code 2 (some .int)).before args s = true) (hd : decode cc pc = .ok (.invokestatic idx, 3) ∧ nx = pc + 3) (h : s_min (AMW p l e R s m args below meth c cells slots Qw ad cy D A0 H0 nL σz) ls st σ nx) : (AMW p l e R s m args below meth c cells slots Qw ad cy D A0 H0 nL σz) pc ls st σ := by
  intro H locs lsl hP hS hl hls hst hσ
  obtain ⟨hd, rfl⟩ := hd
  unfold s_min at h
  split at h
  · rename_i y x st'
    split at h
    · rename_i h8
      obtain ⟨⟨h1, h2⟩, h⟩ := h
      have k := h H locs lsl hP hS hl hls (ok_cons trivial (ok_tail (ok_tail hst))) hσ
      have e : Int32.ofInt (min x y) = if Int32.ofInt y < Int32.ofInt x then Int32.ofInt y else Int32.ofInt x := by
        by_cases q : y < x
        · rw [if_pos ((oi_lt h2 h1).mpr q)]
          congr 1
          omega
        · rw [if_neg (fun z => q ((oi_lt h2 h1).mp z))]
          congr 1
          omega
      rw [List.map_cons] at k
      simp only [conc, e] at k
      refine va_mmin hx hb (hml.trans hl.1.symm) hown hlink hstat hini hcode hR.1 ?_ hC.1 hC.2 hd k
      have := sum8 (ad := ad) h8
      omega
    · exact h.elim
  · exact h.elim
theorem w_max {nx idx : Nat} (hx : p.tables.exec = Jvm.exec) (hb : c.code = cc) (hml : c.maxLocals = nL) (hown : s.vm.findClass own = some m.cls) (hR : 1 ≤ R.frames ∧ 40 ≤ R.locals) (hC : cells ≤ R.cells ∧ slots ≤ R.slots) (hlink : (Jvm.Cond.methodLink own idx Lib.Math.max.name).before args s = true) (hstat : (Jvm.Cond.static Lib.Math.max.name).before args s = true) (hini : (Jvm.Cond.initialized "java/lang/Math").before args s = true) (hcode : (Jvm.Cond.code Lib.Math.max.name Lib.Math.max.code 2 (some .int)).before args s = true) (hd : decode cc pc = .ok (.invokestatic idx, 3) ∧ nx = pc + 3) (h : s_max (AMW p l e R s m args below meth c cells slots Qw ad cy D A0 H0 nL σz) ls st σ nx) : (AMW p l e R s m args below meth c cells slots Qw ad cy D A0 H0 nL σz) pc ls st σ := by
  intro H locs lsl hP hS hl hls hst hσ
  obtain ⟨hd, rfl⟩ := hd
  unfold s_max at h
  split at h
  · rename_i y x st'
    split at h
    · rename_i h8
      obtain ⟨⟨h1, h2⟩, h⟩ := h
      have k := h H locs lsl hP hS hl hls (ok_cons trivial (ok_tail (ok_tail hst))) hσ
      have e : Int32.ofInt (max x y) = if Int32.ofInt x < Int32.ofInt y then Int32.ofInt y else Int32.ofInt x := by
        by_cases q : x < y
        · rw [if_pos ((oi_lt h1 h2).mpr q)]
          congr 1
          omega
        · rw [if_neg (fun z => q ((oi_lt h1 h2).mp z))]
          congr 1
          omega
      rw [List.map_cons] at k
      simp only [conc, e] at k
      refine va_mmax hx hb (hml.trans hl.1.symm) hown hlink hstat hini hcode hR.1 ?_ hC.1 hC.2 hd k
      have := sum8 (ad := ad) h8
      omega
    · exact h.elim
  · exact h.elim
theorem w_abs {nx idx : Nat} (hx : p.tables.exec = Jvm.exec) (hb : c.code = cc) (hml : c.maxLocals = nL) (hown : s.vm.findClass own = some m.cls) (hR : 1 ≤ R.frames ∧ 40 ≤ R.locals) (hC : cells ≤ R.cells ∧ slots ≤ R.slots) (hlink : (Jvm.Cond.methodLink own idx Lib.Math.abs.name).before args s = true) (hstat : (Jvm.Cond.static Lib.Math.abs.name).before args s = true) (hini : (Jvm.Cond.initialized "java/lang/Math").before args s = true) (hcode : (Jvm.Cond.code Lib.Math.abs.name Lib.Math.abs.code 1 (some .int)).before args s = true) (hd : decode cc pc = .ok (.invokestatic idx, 3) ∧ nx = pc + 3) (h : s_abs (AMW p l e R s m args below meth c cells slots Qw ad cy D A0 H0 nL σz) ls st σ nx) : (AMW p l e R s m args below meth c cells slots Qw ad cy D A0 H0 nL σz) pc ls st σ := by
  intro H locs lsl hP hS hl hls hst hσ
  obtain ⟨hd, rfl⟩ := hd
  unfold s_abs at h
  split at h
  · rename_i x st'
    split at h
    · rename_i h8
      obtain ⟨h1, h⟩ := h
      have k := h H locs lsl hP hS hl hls (ok_cons trivial (ok_tail hst)) hσ
      have e : Int32.ofInt (max x (-x)) = if 0 ≤ Int32.ofInt x then Int32.ofInt x else 0 - Int32.ofInt x := by
        have e0 : (0 : Int32) ≤ Int32.ofInt x ↔ 0 ≤ x := by
          rw [← oi_0]
          exact oi_le (by omega) h1
        by_cases q : 0 ≤ x
        · rw [if_pos (e0.mpr q)]
          congr 1
          omega
        · rw [if_neg (fun z => q (e0.mp z)), show max x (-x) = 0 - x by omega, Int32.ofInt_sub]
          rfl
      rw [List.map_cons] at k
      simp only [conc, e] at k
      refine va_mabs hx hb (hml.trans hl.1.symm) hown hlink hstat hini hcode hR.1 ?_ hC.1 hC.2 hd k
      have := sum8 (ad := ad) h8
      omega
    · exact h.elim
  · exact h.elim
theorem swc_at {P : Nat → Prop} {x : Int} : ∀ {ts : List Nat} {lo : Int}, swc P x lo ts → lo ≤ x → x < lo + (ts.length : Int) → ∃ t, ts[(x - lo).toNat]? = some t ∧ P t
  | [], lo, _, h1, h2 => by simp at h2; omega
  | t :: ts, lo, h, h1, h2 => by
    by_cases e : x = lo
    · refine ⟨t, ?_, h.1 e⟩
      rw [e, Int.sub_self]
      rfl
    · simp only [List.length_cons] at h2
      obtain ⟨t', a, b⟩ := swc_at h.2 (by omega) (by omega)
      refine ⟨t', ?_, b⟩
      rw [show (x - lo).toNat = (x - (lo + 1)).toNat + 1 by omega, List.getElem?_cons_succ]
      exact a
theorem w_switch {lo : Int} {ts : List Nat} {dflt : Nat} {d lo' hi : Int} {offs : Array Int} {len : Nat} (hx : p.tables.exec = Jvm.exec) (hb : c.code = cc) (hd : decode cc pc = .ok (.tableswitch d lo' hi offs, len)) (e1 : lo' = lo) (e2 : hi = lo + (ts.length : Int) - 1) (e3 : offs.toList.map (fun o => (pc : Int) + o) = ts.map (fun (t : Nat) => (t : Int))) (e4 : (pc : Int) + d = (dflt : Int)) (h : s_switch (AMW p l e R s m args below meth c cells slots Qw ad cy D A0 H0 nL σz) ls st σ lo ts dflt) : (AMW p l e R s m args below meth c cells slots Qw ad cy D A0 H0 nL σz) pc ls st σ := by
  intro H locs lsl hP hS hl hls hst hσ
  subst e1
  unfold s_switch at h
  split at h
  · rename_i x st'
    obtain ⟨hr, ho, hi'⟩ := h
    have ex := oi_toInt hr
    by_cases q : x < lo' ∨ lo' + (ts.length : Int) ≤ x
    · exact lv_tableOut hx hb hd (by rw [ex]; omega) e4 (ho q H locs lsl hP hS hl hls (ok_tail hst) hσ)
    · obtain ⟨t, t1, t2⟩ := swc_at hi' (by omega) (by omega)
      have h3 : (offs.toList.map (fun o => (pc : Int) + o))[(x - lo').toNat]? = some (t : Int) := by
        rw [e3, List.getElem?_map, t1]
        rfl
      rw [List.getElem?_map] at h3
      cases hq : offs.toList[(x - lo').toNat]? with
      | none => rw [hq] at h3; cases h3
      | some o =>
        rw [hq] at h3
        refine lv_tableIn (off := o) hx hb hd (by rw [ex]; omega) (by rw [ex]; omega) ?_ (Option.some.inj h3) (t2 H locs lsl hP hS hl hls (ok_tail hst) hσ)
        rw [ex, ← Array.getElem?_toList]
        exact hq
  · exact h.elim
/-! calls -/
def WdW (ad : Nat → Int → Nat) (cy : Nat → ClassId) (D : va_G) (SW : State → Prop) (σ : Sto) (U : State) : Prop := va_P D vwCl (cellsW ad cy σ) U.heap ∧ SW U
def QmW (ad : Nat → Int → Nat) (cy : Nat → ClassId) (D : va_G) (SW : State → Prop) (A0 : Nat → Prop) (σ0 : Sto) (Q : Post) : Array Value → State → Outcome → State → Prop := fun _ st o t => (∃ (r : Option AV) (σ' : Sto), o = .returned (r.map (conc ad)) ∧ Q r σ' ∧ okS σ0 σ' ∧ (∀ v, r = some v → okv v) ∧ WdW ad cy D SW σ' t) ∧ va_F A0 st t
theorem am_call {SW : State → Prop} {Qp : Post} {σ0 : Sto} {rest : List Value} {lsl : Array Slot} {st0 : List Value} {a : Array Value} {H : Heap} {locs : List Loc} (hr : va_Run p l e R s m args below meth c H locs cells slots 0 0 (F0 m pc lsl st0) rest (QmW ad cy D SW A0 σ0 Qp a) A0) (hS : va_S A0 H0 H locs)
    (kk : ∀ (r : Option AV) (σ' : Sto) (H1 : Heap) (locs1 : List Loc), Qp r σ' → okS σ0 σ' → (∀ v, r = some v → okv v) → va_P D vwCl (cellsW ad cy σ') H1 → va_S A0 H0 H1 locs1 → W p l e R s m args below meth c H1 locs1 cells slots Qw (F0 m (pc + 3) lsl ((r.map (conc ad)).toList ++ rest))) : W p l e R s m args below meth c H locs cells slots Qw (F0 m pc lsl st0) := by
  intro T hT X
  obtain ⟨v, st₀, t, T', L, h0, X', hL, e1, e2, ⟨⟨r, σ', hv, hq, hok, hr1, hw⟩, hz, hk⟩, st⟩ := hr T hT X
  cases hv
  rw [h0] at hz hk
  obtain ⟨t2, a1, b1⟩ := kk r σ' T'.heap (locs ++ L) hq hok hr1 (by rw [e1]; exact hw.1)
    ⟨Nat.le_trans hS.1 (by rw [e1]; exact hz), fun q h1 h2 => by rw [e1, hk q (Nat.lt_of_lt_of_le h1 hS.1) h2]; exact hS.2.1 q h1 h2, fun q hq => by
      rcases List.mem_append.mp hq with h | h
      · exact hS.2.2 q h
      · exact hL q h⟩ T' rfl X'
  exact ⟨t2, st t2 a1, b1⟩
theorem popn_of : ∀ {n : Nat} {acc st as st' : List AV}, popn n acc st = some (as, st') → ∃ pre, as = pre ++ acc ∧ st = pre.reverse ++ st' ∧ pre.length = n
  | 0, acc, st, as, st', h => by
    simp only [popn, Option.some.injEq, Prod.mk.injEq] at h
    obtain ⟨rfl, rfl⟩ := h
    exact ⟨[], rfl, rfl, rfl⟩
  | n + 1, acc, [], as, st', h => by simp [popn] at h
  | n + 1, acc, v :: st, as, st', h => by
    simp only [popn] at h
    obtain ⟨pre, h1, h2, h3⟩ := popn_of h
    exact ⟨pre ++ [v], by rw [h1, List.append_assoc]; rfl, by rw [h2, List.reverse_append]; rfl, by simp [h3]⟩
theorem mw_facts {y : Nat} (hy : y < NMs) : Jvm.Cond.initialized (mN y).cls ∈ BG ∧ (mS y = true → Jvm.Cond.static (mN y) ∈ BG) ∧ (mS y = false → Jvm.Cond.instanceMethod (mN y) ∈ BG ∧ Jvm.Cond.selects (mN y).cls (mN y) (mN y) ∈ BG) ∧ (mN y).cls = RXn (mC y) ∧ (mN y).cls ≠ "java/lang/invoke/MethodHandle" ∧ (mN y).cls ≠ "java/lang/invoke/VarHandle" ∧ (parseMethodDescriptor (mN y).desc).map (fun q => q.parameters.length) = some (mA y - (if mS y = true then 0 else 1)) ∧ plainName (mN y).cls = true ∧ 1 ≤ mA y + (if mS y = true then 1 else 0) ∧ mL y ≤ 11 ∧ mA y ≤ mL y ∧ mC y < 7 := by
  have h := mw_ok hy
  unfold mwOk at h
  split at h
  · simp only [Bool.and_eq_true, decide_eq_true_eq] at h
    obtain ⟨⟨⟨⟨⟨⟨⟨h1, h2⟩, h3⟩, h4⟩, h5⟩, h6⟩, h7⟩, h8⟩ := h
    refine ⟨rowOk_in h1, fun q => ?_, fun q => ?_, h3.1, h3.2.1, h3.2.2.1, h3.2.2.2, h4, Nat.le_of_ble_eq_true h5, Nat.le_of_ble_eq_true h6, Nat.le_of_ble_eq_true h7, ?_⟩
    · rw [if_pos q] at h2
      exact rowOk_in h2
    · rw [if_neg (by rw [q]; decide), Bool.and_eq_true] at h2
      exact ⟨rowOk_in h2.1, rowOk_in h2.2⟩
    · exact Nat.le_of_ble_eq_true h8
  · cases h
theorem bg_sub {ws : List Jvm.Cond} (h : ∀ w ∈ ws, w ∈ BG) : GoodIn BG ws := fun w hw => bg_good w (h w hw)
/-- what a callee owes: at every store and list of arguments where the twin gives the post, the method has it -/
def MetY (l : Launch) (ad : Nat → Int → Nat) (cy : Nat → ClassId) (D : va_G) (SW : State → Prop) (A0 : Nat → Prop) (rm : Room) (y : Nat) (as : List AV) (σ : Sto) (Q : Post) : Prop := Met l (mN y) (codeW y :: BG) rm (va_Pc (as.map (conc ad)) (WdW ad cy D SW σ)) (QmW ad cy D SW A0 σ Q) 0 0 A0
theorem blind {SW : State → Prop} (hSWb : ∀ (U : State) (g : JFrame) (mk : MethodId) (a : Array Value), SW U → SW (U.calling g mk a)) {as : List Value} {σ : Sto} : FrameBlind (va_Pc as (WdW ad cy D SW σ)) := fun a U g mk q => ⟨q.1, q.2.1, hSWb U g mk a q.2.2⟩
theorem okS_tr {a b d : Sto} (h1 : okS a b) (h2 : okS b d) : okS a d := ⟨h2.1, fun k i hk => (h2.2 k i hk).trans (h1.2 k i hk)⟩
theorem w_call {SW : State → Prop} {Γ : Gam} {y n nx idx : Nat} {rm : Room} (hx : p.tables.exec = Jvm.exec) (hb : c.code = cc) (hml : c.maxLocals = nL) (hts : ∀ w ∈ BG, w.before args s = true) (hown : s.vm.findClass own = some m.cls) (hC : cells ≤ R.cells ∧ slots ≤ R.slots) (hSWb : ∀ (U : State) (g : JFrame) (mk : MethodId) (a : Array Value), SW U → SW (U.calling g mk a)) (hSWH : ∀ (H : Heap) (locs : List Loc) (U : State), va_S A0 H0 H locs → U.heap = H → s.WarmedH U.vm → SW U) (hΓ : ∀ as σ Q, Γ y as σ Q → as.length = mA y → (∀ v ∈ as, okv v) → okS σz σ → MetY l ad cy D SW A0 rm y as σ Q) (hrm : rm.cells = 0 ∧ rm.slots = 0 ∧ rm.frames + 1 ≤ R.frames ∧ 30 + rm.locals ≤ R.locals) (hy : y < NMs) (hst0 : mS y = true) (hn : n = mA y) (hlink : (Jvm.Cond.methodLink own idx (mN y)).before args s = true) (hd : decode cc pc = .ok (.invokestatic idx, 3) ∧ nx = pc + 3) (h : s_call Γ (AMW p l e R s m args below meth c cells slots Qw ad cy D A0 H0 nL σz) ls st σ y n nx) : (AMW p l e R s m args below meth c cells slots Qw ad cy D A0 H0 nL σz) pc ls st σ := by
  intro H locs lsl hP hS hl hls hst hσ
  obtain ⟨hd, rfl⟩ := hd
  obtain ⟨m1, m2, -, -, m4, m5, m6, -, -, m7, -, -⟩ := mw_facts hy
  rw [if_pos hst0, Nat.sub_zero, ← hn] at m6
  unfold s_call at h
  split at h
  · rename_i as st' hpop
    split at h
    · rename_i h8
      obtain ⟨pre, e1, e2, e3⟩ := popn_of hpop
      rw [List.append_nil] at e1
      subst e1
      subst e2
      have hokas : ∀ v ∈ as, okv v := fun v hv => hst v (List.mem_append_left _ (List.mem_reverse.mpr hv))
      have hokst : ∀ v ∈ st', okv v := fun v hv => hst v (List.mem_append_right _ hv)
      have hM := hΓ as σ _ h (by rw [e3, hn]) hokas hσ
      refine am_call (va_runS (As := as.map (conc ad)) (rest := st'.map (conc ad)) ⟨hx, hb, hml, hown, hts⟩ hM ⟨callB_of n hts (bg_sub (fun w hw => ?_)) rfl hrm.1 hrm.2.1 (hts _ m1) hlink ⟨m4, m5, m6⟩ ⟨hrm.2.2.1, by omega⟩, hts _ (m2 hst0)⟩ ⟨blind hSWb, fun U hU hW => ⟨rfl, by rw [hU]; exact hP, hSWH H locs U hS hU hW⟩⟩ rfl (by rw [List.length_map, e3]) hl.1 ?_ (lv_room (sum8 h8)) hd ⟨by omega, by omega⟩) hS (fun r σ' H1 locs1 hq hok hr hP1 hS1 => ?_)
      · rcases List.mem_cons.mp hw with rfl | hw
        · exact cw_ok hy
        · exact hw
      · rw [List.map_append, List.map_reverse]
      · cases r with
        | none => exact hq H1 locs1 lsl hP1 hS1 hl hls hokst (okS_tr hσ hok)
        | some v => exact hq H1 locs1 lsl hP1 hS1 hl hls (ok_cons (hr v rfl) hokst) (okS_tr hσ hok)
    · exact h.elim
  · exact h.elim
theorem w_callN {SW : State → Prop} {Γ : Gam} {y n nx idx : Nat} {rm : Room} {host : String} (hx : p.tables.exec = Jvm.exec) (hb : c.code = cc) (hml : c.maxLocals = nL) (hts : ∀ w ∈ BG, w.before args s = true) (hown : s.vm.findClass own = some m.cls) (hC : cells ≤ R.cells ∧ slots ≤ R.slots) (hSWb : ∀ (U : State) (g : JFrame) (mk : MethodId) (a : Array Value), SW U → SW (U.calling g mk a)) (hSWH : ∀ (H : Heap) (locs : List Loc) (U : State), va_S A0 H0 H locs → U.heap = H → s.WarmedH U.vm → SW U) (hΓ : ∀ as σ Q, Γ y as σ Q → as.length = mA y → (∀ v ∈ as, okv v) → okS σz σ → MetY l ad cy D SW A0 rm y as σ Q) (hrm : rm.cells = 0 ∧ rm.slots = 0 ∧ rm.frames + 1 ≤ R.frames ∧ 30 + rm.locals ≤ R.locals) (hy : y < NMs) (hst0 : mS y = true) (hn : n = mA y) (hlink : va_Nw (.methodLinkNest own idx (mN y) host) s) (hd : decode cc pc = .ok (.invokestatic idx, 3) ∧ nx = pc + 3) (h : s_call Γ (AMW p l e R s m args below meth c cells slots Qw ad cy D A0 H0 nL σz) ls st σ y n nx) : (AMW p l e R s m args below meth c cells slots Qw ad cy D A0 H0 nL σz) pc ls st σ := by
  intro H locs lsl hP hS hl hls hst hσ
  obtain ⟨hd, rfl⟩ := hd
  obtain ⟨m1, m2, -, -, m4, m5, m6, -, -, m7, -, -⟩ := mw_facts hy
  rw [if_pos hst0, Nat.sub_zero, ← hn] at m6
  unfold s_call at h
  split at h
  · rename_i as st' hpop
    split at h
    · rename_i h8
      obtain ⟨pre, e1, e2, e3⟩ := popn_of hpop
      rw [List.append_nil] at e1
      subst e1
      subst e2
      have hokas : ∀ v ∈ as, okv v := fun v hv => hst v (List.mem_append_left _ (List.mem_reverse.mpr hv))
      have hokst : ∀ v ∈ st', okv v := fun v hv => hst v (List.mem_append_right _ hv)
      have hM := hΓ as σ _ h (by rw [e3, hn]) hokas hσ
      refine am_call (va_runSN (As := as.map (conc ad)) (rest := st'.map (conc ad)) ⟨hx, hb, hml, hown, hts⟩ hM ⟨va_cnB n hts (bg_sub (fun w hw => ?_)) rfl hrm.1 hrm.2.1 hlink (hts _ m1) ⟨m4, m5, m6⟩ ⟨hrm.2.2.1, by omega⟩, hts _ (m2 hst0), trivial⟩ ⟨blind hSWb, fun U hU hW => ⟨rfl, by rw [hU]; exact hP, hSWH H locs U hS hU hW⟩⟩ rfl (by rw [List.length_map, e3]) hl.1 ?_ (lv_room (sum8 h8)) hd ⟨by omega, by omega⟩) hS (fun r σ' H1 locs1 hq hok hr hP1 hS1 => ?_)
      · rcases List.mem_cons.mp hw with rfl | hw
        · exact cw_ok hy
        · exact hw
      · rw [List.map_append, List.map_reverse]
      · cases r with
        | none => exact hq H1 locs1 lsl hP1 hS1 hl hls hokst (okS_tr hσ hok)
        | some v => exact hq H1 locs1 lsl hP1 hS1 hl hls (ok_cons (hr v rfl) hokst) (okS_tr hσ hok)
    · exact h.elim
  · exact h.elim
theorem w_callV {SW : State → Prop} {Γ : Gam} {y n nx idx ci : Nat} {rm : Room} (hx : p.tables.exec = Jvm.exec) (hb : c.code = cc) (hml : c.maxLocals = nL) (hts : ∀ w ∈ BG, w.before args s = true) (hown : s.vm.findClass own = some m.cls) (hK : va_K D vwCl (tysW cy) s) (hC : cells ≤ R.cells ∧ slots ≤ R.slots) (hSWb : ∀ (U : State) (g : JFrame) (mk : MethodId) (a : Array Value), SW U → SW (U.calling g mk a)) (hSWH : ∀ (H : Heap) (locs : List Loc) (U : State), va_S A0 H0 H locs → U.heap = H → s.WarmedH U.vm → SW U) (hΓ : ∀ as σ Q, Γ y as σ Q → as.length = mA y → (∀ v ∈ as, okv v) → okS σz σ → MetY l ad cy D SW A0 rm y as σ Q) (hrm : rm.cells = 0 ∧ rm.slots = 0 ∧ rm.frames + 1 ≤ R.frames ∧ 30 + rm.locals ≤ R.locals) (hy : y < NMs) (hst0 : mS y = false) (hn : n = mA y) (hci : ci = mC y) (hlink : (Jvm.Cond.methodLink own idx (mN y)).before args s = true) (hd : decode cc pc = .ok (.invokevirtual idx, 3) ∧ nx = pc + 3) (h : s_callV Γ (AMW p l e R s m args below meth c cells slots Qw ad cy D A0 H0 nL σz) ls st σ ci y n nx) : (AMW p l e R s m args below meth c cells slots Qw ad cy D A0 H0 nL σz) pc ls st σ := by
  intro H locs lsl hP hS hl hls hst hσ
  obtain ⟨hd, rfl⟩ := hd
  obtain ⟨m1, -, m3, mc, m4, m5, m6, -, mge, m7, -, -⟩ := mw_facts hy
  rw [if_neg (by rw [hst0]; decide)] at m6
  unfold s_callV at h
  split at h
  · rename_i k i as st' hpop
    split at h
    · rename_i ck hck
      split at h
      · rename_i hce
        split at h
        · rename_i h8
          obtain ⟨pre, e1, e2, e3⟩ := popn_of hpop
          rw [List.append_nil] at e1
          subst e1
          subst e2
          have hokas : ∀ v ∈ (.inr (k, i) :: as : List AV), okv v := fun v hv => hst v (List.mem_append_left _ (List.mem_reverse.mpr hv))
          have hokst : ∀ v ∈ st', okv v := fun v hv => hst v (List.mem_append_right _ hv)
          have hok : 0 ≤ i ∧ i < cntK k := hokas _ List.mem_cons_self
          obtain ⟨q0, hq0⟩ := ids_at (cls_lt hck).1 hok.1 hok.2
          have hM := hΓ _ σ _ h (by rw [e3, hn]) hokas hσ
          have hC1 : (mN y).cls = RXn ck := by rw [mc, hce, hci]
          have hrecv := va_recv (q0 := q0) (a := ad k i) hK hP (cls_vw hck) ((cells_get (ad := ad) (cy := cy) hq0 σ).trans (by rw [cellE_O hck]))
          refine am_call (va_runV (C := RXn ck) (b := ad k i) (As := as.map (conc ad)) (rest := st'.map (conc ad)) ⟨hx, hb, hml, hown, hts⟩ hM ⟨callB_of (mA y - 1) hts (bg_sub (fun w hw => ?_)) rfl hrm.1 hrm.2.1 (hts _ m1) hlink ⟨m4, m5, m6⟩ ⟨hrm.2.2.1, by omega⟩, hts _ (m3 hst0).1, by rw [← hC1]; exact hts _ (m3 hst0).2⟩ ⟨blind hSWb, hrecv, fun U hU hW => ⟨rfl, by rw [hU]; exact hP, hSWH H locs U hS hU hW⟩⟩ rfl (by rw [List.length_map]; rw [← hn]; rw [List.length_cons] at e3; omega) hl.1 ?_ (lv_room (sum8 h8)) hd ⟨by omega, by omega⟩) hS (fun r σ' H1 locs1 hq hok hr hP1 hS1 => ?_)
          · rcases List.mem_cons.mp hw with rfl | hw
            · exact cw_ok hy
            · exact hw
          · show ((.inr (k, i) :: as : List AV).reverse ++ st').map (conc ad) = (as.map (conc ad)).reverse ++ .ref (ad k i) :: st'.map (conc ad)
            rw [List.reverse_cons, List.map_append, List.map_append, List.map_reverse, List.append_assoc]
            rfl
          · cases r with
            | none => exact hq H1 locs1 lsl hP1 hS1 hl hls hokst (okS_tr hσ hok)
            | some v => exact hq H1 locs1 lsl hP1 hS1 hl hls (ok_cons (hr v rfl) hokst) (okS_tr hσ hok)
        · exact h.elim
      · exact h.elim
    · exact h.elim
  · exact h.elim
end AMF
end
section
/-! THE CODE AGAINST THE TABLES, one step, and a whole method -/
set_option maxRecDepth 100000 in
theorem lb_min_s : Jvm.Cond.static Lib.Math.min.name ∈ BG := bg_of 222 rfl rfl
set_option maxRecDepth 100000 in
theorem lb_min_c : Jvm.Cond.code Lib.Math.min.name Lib.Math.min.code 2 (some .int) ∈ BG := bg_of 223 rfl rfl
set_option maxRecDepth 100000 in
theorem lb_max_s : Jvm.Cond.static Lib.Math.max.name ∈ BG := bg_of 422 rfl rfl
set_option maxRecDepth 100000 in
theorem lb_max_c : Jvm.Cond.code Lib.Math.max.name Lib.Math.max.code 2 (some .int) ∈ BG := bg_of 423 rfl rfl
set_option maxRecDepth 100000 in
theorem lb_abs_s : Jvm.Cond.static Lib.Math.abs.name ∈ BG := bg_of 338 rfl rfl
set_option maxRecDepth 100000 in
theorem lb_abs_c : Jvm.Cond.code Lib.Math.abs.name Lib.Math.abs.code 1 (some .int) ∈ BG := bg_of 339 rfl rfl
set_option maxRecDepth 100000 in
theorem lb_math : Jvm.Cond.initialized "java/lang/Math" ∈ BG := bg_of 24 rfl rfl
set_option maxRecDepth 100000 in
theorem lb_copy_s : Jvm.Cond.static arraycopyName ∈ BG := bg_of 219 rfl rfl
set_option maxRecDepth 100000 in
theorem lb_copy_n : Jvm.Cond.native arraycopyName ∈ BG := bg_of 220 rfl rfl
set_option maxRecDepth 100000 in
theorem lb_sys : Jvm.Cond.initialized "java/lang/System" ∈ BG := bg_of 23 rfl rfl
def chkI (cc : ByteArray) (oc nL : Nat) (rk : Option FieldType) (pc : Nat) (ins : AMI) : Bool := match ins with
  | (0, v, _, _, _, nx) => (match decode cc pc with
    | .ok (.iconst w, 1) => decide (w = v ∧ nx = pc + 1)
    | .ok (.bipush w, 2) => decide (w = v ∧ (Int8.ofInt v).toInt32 = Int32.ofInt v ∧ nx = pc + 2)
    | .ok (.sipush w, 3) => decide (w = v ∧ (Int16.ofInt v).toInt32 = Int32.ofInt v ∧ nx = pc + 3)
    | .ok (.ldc idx, 2) => decide ((oc, idx, v) ∈ klL.map Prod.snd ∧ nx = pc + 2)
    | _ => false)
  | (1, _, k, _, _, nx) => (match decode cc pc with
    | .ok (.iload w, 2) => decide (w = k ∧ nx = pc + 2)
    | .ok (.iload_n w, 1) => decide ((w : Nat) = k ∧ nx = pc + 1)
    | _ => false)
  | (2, _, k, _, _, nx) => (match decode cc pc with
    | .ok (.aload w, 2) => decide (w = k ∧ nx = pc + 2)
    | .ok (.aload_n w, 1) => decide ((w : Nat) = k ∧ nx = pc + 1)
    | _ => false)
  | (3, _, k, _, _, nx) => (match decode cc pc with
    | .ok (.istore w, 2) => decide (w = k ∧ k < nL ∧ nx = pc + 2)
    | .ok (.istore_n w, 1) => decide ((w : Nat) = k ∧ k < nL ∧ nx = pc + 1)
    | _ => false)
  | (4, _, k, _, _, nx) => (match decode cc pc with
    | .ok (.astore w, 2) => decide (w = k ∧ k < nL ∧ nx = pc + 2)
    | .ok (.astore_n w, 1) => decide ((w : Nat) = k ∧ k < nL ∧ nx = pc + 1)
    | _ => false)
  | (5, _, _, _, _, nx) => decide (decode cc pc = .ok (.iadd, 1) ∧ nx = pc + 1)
  | (6, _, _, _, _, nx) => decide (decode cc pc = .ok (.isub, 1) ∧ nx = pc + 1)
  | (7, _, _, _, _, nx) => decide (decode cc pc = .ok (.imul, 1) ∧ nx = pc + 1)
  | (8, _, _, _, _, nx) => decide (decode cc pc = .ok (.idiv, 1) ∧ nx = pc + 1)
  | (9, _, _, _, _, nx) => decide (decode cc pc = .ok (.irem, 1) ∧ nx = pc + 1)
  | (10, _, _, _, _, nx) => decide (decode cc pc = .ok (.ineg, 1) ∧ nx = pc + 1)
  | (11, n, k, _, _, nx) => decide (k < nL ∧ decode cc pc = .ok (.iinc k n, 3) ∧ nx = pc + 3)
  | (12, _, _, _, _, nx) => decide (decode cc pc = .ok (.dup, 1) ∧ nx = pc + 1)
  | (13, _, _, _, _, nx) => decide (decode cc pc = .ok (.dup2, 1) ∧ nx = pc + 1)
  | (14, _, _, _, _, nx) => decide (decode cc pc = .ok (.pop, 1) ∧ nx = pc + 1)
  | (15, off, cond, tgt, _, nx) => decide (decode cc pc = .ok (.ifCond (cnd cond) off, 3) ∧ (pc : Int) + off = (tgt : Int) ∧ nx = pc + 3)
  | (16, off, cond, tgt, _, nx) => decide (decode cc pc = .ok (.if_icmp (cnd cond) off, 3) ∧ (pc : Int) + off = (tgt : Int) ∧ nx = pc + 3)
  | (17, off, _, _, _, nx) => decide (decode cc pc = .ok (.goto off, 3) ∧ (pc : Int) + off = (nx : Int))
  | (18, _, w, _, _, _) => (match decode cc pc with
    | .ok (.tableswitch d lo hi offs, _) => decide (lo = (swT w).1 ∧ hi = (swT w).1 + ((swT w).2.1.length : Int) - 1 ∧ offs.toList.map (fun o => (pc : Int) + o) = (swT w).2.1.map (fun (t : Nat) => (t : Int)) ∧ (pc : Int) + d = ((swT w).2.2 : Int))
    | _ => false)
  | (20, _, _, _, _, nx) => decide (decode cc pc = .ok (.iaload, 1) ∧ nx = pc + 1)
  | (21, _, _, _, _, nx) => decide (decode cc pc = .ok (.caload, 1) ∧ nx = pc + 1)
  | (22, _, _, _, _, nx) => decide (decode cc pc = .ok (.aaload, 1) ∧ nx = pc + 1)
  | (23, _, _, _, _, nx) => decide (decode cc pc = .ok (.iastore, 1) ∧ nx = pc + 1)
  | (24, _, _, _, _, nx) => decide (decode cc pc = .ok (.castore, 1) ∧ nx = pc + 1)
  | (25, i, ci, f, _, nx) => decide (decode cc pc = .ok (.getfield i.toNat, 3) ∧ nx = pc + 3 ∧ (oc, i.toNat, ci, f) ∈ flL.map Prod.snd)
  | (26, i, ci, f, _, nx) => decide (decode cc pc = .ok (.putfield i.toNat, 3) ∧ nx = pc + 3 ∧ (oc, i.toNat, ci, f) ∈ flL.map Prod.snd ∧ parseFieldDescriptor (TXn ci f).2.2.1 = some .int)
  | (27, i, ci, f, _, nx) => decide (decode cc pc = .ok (.putfield i.toNat, 3) ∧ nx = pc + 3 ∧ (oc, i.toNat, ci, f) ∈ flL.map Prod.snd ∧ parseFieldDescriptor (TXn ci f).2.2.1 = some .boolean)
  | (28, _, _, _, _, nx) => decide (decode cc pc = .ok (.i2c, 1) ∧ nx = pc + 1)
  | (29, i, _, _, _, nx) => decide (decode cc pc = .ok (.invokestatic i.toNat, 3) ∧ nx = pc + 3 ∧ (oc, i.toNat, 29) ∈ mmL.map Prod.snd)
  | (30, i, y, n, _, nx) => decide (decode cc pc = .ok (.invokestatic i.toNat, 3) ∧ nx = pc + 3 ∧ y = m_X4_isWithin ∧ n = mA y ∧ (oc = 2 ∧ i.toNat = 173))
  | (31, i, y, n, ci, nx) => decide (decode cc pc = .ok (.invokevirtual i.toNat, 3) ∧ nx = pc + 3 ∧ y < NMs ∧ mS y = false ∧ n = mA y ∧ ci = mC y ∧ (oc, i.toNat, y) ∈ mlL.map Prod.snd)
  | (32, i, y, n, _, nx) => decide (decode cc pc = .ok (.invokestatic i.toNat, 3) ∧ nx = pc + 3 ∧ y < NMs ∧ mS y = true ∧ n = mA y ∧ (oc, i.toNat, y) ∈ mlL.map Prod.snd)
  | (33, i, _, _, _, nx) => decide (decode cc pc = .ok (.invokestatic i.toNat, 3) ∧ nx = pc + 3 ∧ (oc, i.toNat, 33) ∈ mmL.map Prod.snd)
  | (34, i, _, _, _, nx) => decide (decode cc pc = .ok (.invokestatic i.toNat, 3) ∧ nx = pc + 3 ∧ (oc, i.toNat, 34) ∈ mmL.map Prod.snd)
  | (35, i, _, _, _, nx) => decide (decode cc pc = .ok (.invokestatic i.toNat, 3) ∧ nx = pc + 3 ∧ (oc, i.toNat, 35) ∈ mmL.map Prod.snd)
  | (40, _, _, _, _, _) => decide (decode cc pc = .ok (.ireturn, 1) ∧ rk = some .int)
  | (41, _, _, _, _, _) => decide (decode cc pc = .ok (.ireturn, 1) ∧ rk = some .boolean)
  | (42, _, _, _, _, _) => decide (decode cc pc = .ok (.areturn, 1) ∧ rk = some (.array .int))
  | (43, _, _, _, _, _) => decide (decode cc pc = .ok (.return_, 1) ∧ rk = none)
  | (46, _, _, _, _, nx) => decide (decode cc pc = .ok (.ishr, 1) ∧ nx = pc + 1)
  | (47, _, _, _, _, nx) => decide (decode cc pc = .ok (.iand, 1) ∧ nx = pc + 1)
  | (48, _, _, _, _, nx) => decide (oc = 6 ∧ decode cc pc = .ok (.arraylength, 1) ∧ nx = pc + 1)
  | (50, _, _, _, _, nx) => decide (oc = 6 ∧ decode cc pc = .ok (.iaload, 1) ∧ nx = pc + 1)
  | _ => false
def isSp (op : Nat) : Bool := Nat.beq op 40 || Nat.beq op 41 || Nat.beq op 42 || Nat.beq op 43 || Nat.beq op 48 || Nat.beq op 50
theorem snd_in {α : Type} {l : List (Nat × α)} {P : α → Prop} (h : ∀ q ∈ l, P q.2) {x : α} (hx : x ∈ l.map Prod.snd) : P x := by
  obtain ⟨q, hq, rfl⟩ := List.mem_map.mp hx
  exact h q hq
section AMST
variable {p : Program} {l : Launch} {e : Env} {R : Room} {s : State} {m : MethodId} {args : Array Value} {below : List Frame} {meth : Method} {c : Code} {cells slots : Nat} {Qw : State → Prop} {ad : Nat → Int → Nat} {cy : Nat → ClassId} {D : va_G} {A0 : Nat → Prop} {H0 : Heap} {nL : Nat} {cc : ByteArray} {pc : Nat} {ls st : List AV} {σ σz : Sto} {own : String}
set_option maxHeartbeats 8000000 in
theorem w_step {SW : State → Prop} {Γ : Gam} {Q : Post} {rm : Room} {oc : Nat} {rk : Option FieldType} {ins : AMI} (hx : p.tables.exec = Jvm.exec) (hb : c.code = cc) (hml : c.maxLocals = nL) (hts : ∀ w ∈ BG, w.before args s = true) (hown : s.vm.findClass (RXn oc) = some m.cls) (hK : va_K D vwCl (tysW cy) s) (hD : ∀ σ, va_D A0 (cellsW ad cy σ)) (hR : 1 ≤ R.frames ∧ 40 ≤ R.locals) (hC : cells ≤ R.cells ∧ slots ≤ R.slots) (hSWb : ∀ (U : State) (g : JFrame) (mk : MethodId) (a : Array Value), SW U → SW (U.calling g mk a)) (hSWH : ∀ (H : Heap) (locs : List Loc) (U : State), va_S A0 H0 H locs → U.heap = H → s.WarmedH U.vm → SW U) (hnest : va_Nw (.methodLinkNest RX2 173 yX4_isWithin RX4) s)
    (hΓ : ∀ y as σ Q, y < NMs → Γ y as σ Q → as.length = mA y → (∀ v ∈ as, okv v) → okS σz σ → MetY l ad cy D SW A0 rm y as σ Q) (hrm : rm.cells = 0 ∧ rm.slots = 0 ∧ rm.frames + 1 ≤ R.frames ∧ 30 + rm.locals ≤ R.locals)
    (hc : chkI cc oc nL rk pc ins = true) (hsp : isSp ins.1 = true → (AMW p l e R s m args below meth c cells slots Qw ad cy D A0 H0 nL σz) pc ls st σ) (h : stp Γ Q (AMW p l e R s m args below meth c cells slots Qw ad cy D A0 H0 nL σz) ls st σ ins) : (AMW p l e R s m args below meth c cells slots Qw ad cy D A0 H0 nL σz) pc ls st σ := by
  have hfl : ∀ idx ci f : Nat, (oc, idx, ci, f) ∈ flL.map Prod.snd → (Jvm.Cond.fieldLink (RXn oc) idx (TXn ci f).1 (TXn ci f).2.1 (TXn ci f).2.2.1).before args s = true := fun idx ci f hx => hts (flW (oc, idx, ci, f)) (snd_in (P := fun x => flW x ∈ BG) flL_ok hx)
  have hmlk : ∀ idx y : Nat, (oc, idx, y) ∈ mlL.map Prod.snd → (Jvm.Cond.methodLink (RXn oc) idx (mN y)).before args s = true := fun idx y hx => hts (mlW (oc, idx, y)) (snd_in (P := fun x => mlW x ∈ BG) mlL_ok hx)
  have hkl : ∀ (idx : Nat) (v : Int), (oc, idx, v) ∈ klL.map Prod.snd → (Jvm.Cond.constant (RXn oc) idx (Int32.ofInt v)).before args s = true := fun idx v hx => hts (klW (oc, idx, v)) (snd_in (P := fun x => klW x ∈ BG) klL_ok hx)
  have hmm : ∀ idx o : Nat, (oc, idx, o) ∈ mmL.map Prod.snd → (Jvm.Cond.methodLink (RXn oc) idx (libN o)).before args s = true := fun idx o hx => hts (mmW (oc, idx, o)) (snd_in (P := fun x => mmW x ∈ BG) mmL_ok hx)
  generalize hown' : RXn oc = own' at *
  unfold stp at h
  split at h <;> simp only [chkI] at hc
  · split at hc <;> first | cases hc | skip
    · rename_i hd
      obtain ⟨rfl, rfl⟩ := of_decide_eq_true hc
      exact w_const (own := own') hx hb (Or.inl ⟨hd, rfl⟩) h
    · rename_i hd
      obtain ⟨rfl, h1, rfl⟩ := of_decide_eq_true hc
      exact w_const (own := own') hx hb (Or.inr (Or.inl ⟨hd, h1, rfl⟩)) h
    · rename_i hd
      obtain ⟨rfl, h1, rfl⟩ := of_decide_eq_true hc
      exact w_const (own := own') hx hb (Or.inr (Or.inr (Or.inl ⟨hd, h1, rfl⟩))) h
    · rename_i hd
      obtain ⟨h1, rfl⟩ := of_decide_eq_true hc
      exact w_const (own := own') hx hb (Or.inr (Or.inr (Or.inr ⟨_, hd, hown, hkl _ _ h1, rfl⟩))) h
  · split at hc <;> first | cases hc | skip
    · rename_i hd
      obtain ⟨rfl, rfl⟩ := of_decide_eq_true hc
      exact w_load hx hb (Or.inl ⟨hd, rfl⟩) h
    · rename_i hd
      obtain ⟨rfl, rfl⟩ := of_decide_eq_true hc
      exact w_load hx hb (Or.inr ⟨_, hd, rfl, rfl⟩) h
  · split at hc <;> first | cases hc | skip
    · rename_i hd
      obtain ⟨rfl, rfl⟩ := of_decide_eq_true hc
      exact w_loadA hx hb (Or.inl ⟨hd, rfl⟩) h
    · rename_i hd
      obtain ⟨rfl, rfl⟩ := of_decide_eq_true hc
      exact w_loadA hx hb (Or.inr ⟨_, hd, rfl, rfl⟩) h
  · split at hc <;> first | cases hc | skip
    · rename_i hd
      obtain ⟨rfl, h1, rfl⟩ := of_decide_eq_true hc
      exact w_store hx hb h1 (Or.inl ⟨hd, rfl⟩) h
    · rename_i hd
      obtain ⟨rfl, h1, rfl⟩ := of_decide_eq_true hc
      exact w_store hx hb h1 (Or.inr ⟨_, hd, rfl, rfl⟩) h
  · split at hc <;> first | cases hc | skip
    · rename_i hd
      obtain ⟨rfl, h1, rfl⟩ := of_decide_eq_true hc
      exact w_storeA hx hb h1 (Or.inl ⟨hd, rfl⟩) h
    · rename_i hd
      obtain ⟨rfl, h1, rfl⟩ := of_decide_eq_true hc
      exact w_storeA hx hb h1 (Or.inr ⟨_, hd, rfl, rfl⟩) h
  · exact w_add hx hb (of_decide_eq_true hc) h
  · exact w_sub hx hb (of_decide_eq_true hc) h
  · exact w_mul hx hb (of_decide_eq_true hc) h
  · exact w_div hx hb (of_decide_eq_true hc) h
  · exact w_rem hx hb (of_decide_eq_true hc) h
  · exact w_neg hx hb (of_decide_eq_true hc) h
  · obtain ⟨h1, h2⟩ := of_decide_eq_true hc
    exact w_iinc hx hb h1 h2 h
  · exact w_dup hx hb (of_decide_eq_true hc) h
  · exact w_dup2 hx hb (of_decide_eq_true hc) h
  · exact w_pop hx hb (of_decide_eq_true hc) h
  · obtain ⟨h1, h2, h3⟩ := of_decide_eq_true hc
    exact w_if hx hb h1 h2 h3 h
  · obtain ⟨h1, h2, h3⟩ := of_decide_eq_true hc
    exact w_icmp hx hb h1 h2 h3 h
  · obtain ⟨h1, h2⟩ := of_decide_eq_true hc
    exact w_goto hx hb h1 h2 h
  · split at hc <;> first | cases hc | skip
    rename_i hd
    obtain ⟨h1, h2, h3, h4⟩ := of_decide_eq_true hc
    exact w_switch hx hb hd h1 h2 h3 h4 h
  · exact w_iald hx hb hK (of_decide_eq_true hc) h
  · exact w_cald hx hb hK (of_decide_eq_true hc) h
  · exact w_aald hx hb hK (of_decide_eq_true hc) h
  · exact w_iast hx hb hK hD (of_decide_eq_true hc) h
  · exact w_cast hx hb hK hD (of_decide_eq_true hc) h
  · obtain ⟨h1, h2, h3⟩ := of_decide_eq_true hc
    exact w_get hx hb hts hown hK ⟨h1, h2⟩ (hfl _ _ _ h3) h
  · obtain ⟨h1, h2, h3, h4⟩ := of_decide_eq_true hc
    exact w_put (ty := .int) hx hb hts hown hK hD ⟨h1, h2⟩ (hfl _ _ _ h3) (Or.inl ⟨rfl, h4⟩) h
  · obtain ⟨h1, h2, h3, h4⟩ := of_decide_eq_true hc
    exact w_put (ty := .boolean) hx hb hts hown hK hD ⟨h1, h2⟩ (hfl _ _ _ h3) (Or.inr ⟨by decide, h4⟩) h
  · exact w_i2c hx hb (of_decide_eq_true hc) h
  · obtain ⟨h1, h2, h3⟩ := of_decide_eq_true hc
    exact w_copy hx hb hml hown hK hD hR (hmm _ _ h3) (hts _ lb_copy_n) (hts _ lb_copy_s) (hts _ lb_sys) ⟨h1, h2⟩ h
  · obtain ⟨h1, h2, rfl, h4, h5⟩ := of_decide_eq_true hc
    have hy : m_X4_isWithin < NMs := by decide
    refine w_callN (host := RX4) (rm := rm) hx hb hml hts hown hC hSWb hSWH (fun as σ Q g1 g2 g3 g4 => hΓ _ as σ Q hy g1 g2 g3 g4) hrm hy rfl h4 ?_ ⟨h1, h2⟩ h
    · obtain ⟨rfl, e⟩ := h5
      rw [e, ← hown']
      exact hnest
  · obtain ⟨h1, h2, h3, h4, h5, h6, h7⟩ := of_decide_eq_true hc
    exact w_callV (rm := rm) hx hb hml hts hown hK hC hSWb hSWH (fun as σ Q g1 g2 g3 g4 => hΓ _ as σ Q h3 g1 g2 g3 g4) hrm h3 h4 h5 h6 (hmlk _ _ h7) ⟨h1, h2⟩ h
  · obtain ⟨h1, h2, h3, h4, h5, h7⟩ := of_decide_eq_true hc
    exact w_call (rm := rm) hx hb hml hts hown hC hSWb hSWH (fun as σ Q g1 g2 g3 g4 => hΓ _ as σ Q h3 g1 g2 g3 g4) hrm h3 h4 h5 (hmlk _ _ h7) ⟨h1, h2⟩ h
  · obtain ⟨h1, h2, h3⟩ := of_decide_eq_true hc
    exact w_min hx hb hml hown hR hC (hmm _ _ h3) (hts _ lb_min_s) (hts _ lb_math) (hts _ lb_min_c) ⟨h1, h2⟩ h
  · obtain ⟨h1, h2, h3⟩ := of_decide_eq_true hc
    exact w_max hx hb hml hown hR hC (hmm _ _ h3) (hts _ lb_max_s) (hts _ lb_math) (hts _ lb_max_c) ⟨h1, h2⟩ h
  · obtain ⟨h1, h2, h3⟩ := of_decide_eq_true hc
    exact w_abs hx hb hml hown hR hC (hmm _ _ h3) (hts _ lb_abs_s) (hts _ lb_math) (hts _ lb_abs_c) ⟨h1, h2⟩ h
  all_goals first | exact hsp rfl | exact h.elim | exact w_shr hx hb (of_decide_eq_true hc) h | exact w_and hx hb (of_decide_eq_true hc) h
end AMST
end
section
/-! RUNS of the twin: a method's predicate transformer, and how it is walked -/
def wpm (Γ : Gam) : Gam := fun y as σ Q => ∀ P : Ctx, (∀ pc ls st σ, stp Γ Q P ls st σ (lk2 (tbl y) pc) → P pc ls st σ) → P 0 as [] σ
def WPd : Nat → Gam
  | 0 => fun _ _ _ _ => False
  | d + 1 => wpm (WPd d)
def gmono (Γ : Gam) : Prop := ∀ y as σ (Q Q' : Post), (∀ r σ', Q r σ' → Q' r σ') → Γ y as σ Q → Γ y as σ Q'
theorem swc_mono {P P' : Nat → Prop} (h : ∀ t, P t → P' t) {x : Int} : ∀ {ts : List Nat} {lo : Int}, swc P x lo ts → swc P' x lo ts
  | [], _, _ => trivial
  | _ :: _, _, q => ⟨fun e => h _ (q.1 e), swc_mono h q.2⟩
theorem brc_mono {cond : Nat} {x y : Int} {A B A' B' : Prop} (hA : A → A') (hB : B → B') (h : brc cond x y A B) : brc cond x y A' B' := by
  unfold brc at h ⊢
  split at h <;> exact ⟨fun q => hA (h.1 q), fun q => hB (h.2 q)⟩
theorem stp_mono {Γ : Gam} {Q Q' : Post} {P P' : Ctx} (hΓ : gmono Γ) (hQ : ∀ r σ, Q r σ → Q' r σ) (hP : ∀ pc ls st σ, P pc ls st σ → P' pc ls st σ) {ls st : List AV} {σ : Sto} {ins : AMI} (h : stp Γ Q P ls st σ ins) : stp Γ Q' P' ls st σ ins := by
  have hc : ∀ (nx : Nat) (ls st' : List AV) (r : Option AV) (σ' : Sto), (match r with
      | none => P nx ls st' σ'
      | some v => P nx ls (v :: st') σ') → (match r with
      | none => P' nx ls st' σ'
      | some v => P' nx ls (v :: st') σ') := by
    intro nx ls st' r σ' h
    cases r <;> exact hP _ _ _ _ h
  unfold stp at h ⊢
  split at h
  · exact hP _ _ _ _ h
  · unfold s_load at h ⊢; split at h <;> first | exact h.elim | exact hP _ _ _ _ h | (rename_i e1; simp only [e1]; exact hP _ _ _ _ h)
  · unfold s_loadA at h ⊢; split at h <;> first | exact h.elim | exact hP _ _ _ _ h | (rename_i e1; simp only [e1]; exact hP _ _ _ _ h)
  · unfold s_store at h ⊢; split at h
    · split at h <;> first | exact h.elim | exact hP _ _ _ _ h | (rename_i e1; simp only [e1]; exact hP _ _ _ _ h)
    · exact h.elim
  · unfold s_storeA at h ⊢; split at h
    · split at h <;> first | exact h.elim | exact hP _ _ _ _ h | (rename_i e1; simp only [e1]; exact hP _ _ _ _ h)
    · exact h.elim
  · unfold s_add at h ⊢; split at h <;> first | exact h.elim | exact hP _ _ _ _ h
  · unfold s_sub at h ⊢; split at h <;> first | exact h.elim | exact hP _ _ _ _ h
  · unfold s_mul at h ⊢; split at h <;> first | exact h.elim | exact hP _ _ _ _ h
  · unfold s_idiv at h ⊢; split at h <;> first | exact h.elim | exact ⟨h.1, hP _ _ _ _ h.2⟩
  · unfold s_irem at h ⊢; split at h <;> first | exact h.elim | exact ⟨h.1, hP _ _ _ _ h.2⟩
  · unfold s_neg at h ⊢; split at h <;> first | exact h.elim | exact hP _ _ _ _ h
  · unfold s_iinc at h ⊢; split at h
    · rename_i e0
      split at h <;> first | exact h.elim | exact hP _ _ _ _ h | (rename_i e1; simp only [e0, e1]; exact hP _ _ _ _ h)
    · exact h.elim
  · unfold s_dup at h ⊢; split at h <;> first | exact h.elim | exact hP _ _ _ _ h
  · unfold s_dup2 at h ⊢; split at h <;> first | exact h.elim | exact hP _ _ _ _ h
  · unfold s_pop at h ⊢; split at h <;> first | exact h.elim | exact hP _ _ _ _ h
  · unfold s_if at h ⊢; split at h <;> first | exact h.elim | exact ⟨h.1, brc_mono (hP _ _ _ _) (hP _ _ _ _) h.2⟩
  · unfold s_icmp at h ⊢; split at h <;> first | exact h.elim | exact ⟨h.1, brc_mono (hP _ _ _ _) (hP _ _ _ _) h.2⟩
  · exact hP _ _ _ _ h
  · unfold s_switch at h ⊢; split at h <;> first | exact h.elim | exact ⟨h.1, fun q => hP _ _ _ _ (h.2.1 q), swc_mono (fun t => hP _ _ _ _) h.2.2⟩
  · unfold s_iald at h ⊢; split at h
    · split at h <;> first | exact h.elim | exact ⟨h.1, fun q => hP _ _ _ _ (h.2 q)⟩ | (rename_i e1; simp only [e1]; exact ⟨h.1, fun q => hP _ _ _ _ (h.2 q)⟩)
    · exact h.elim
  · unfold s_cald at h ⊢; split at h
    · split at h <;> first | exact h.elim | exact ⟨h.1, fun q => hP _ _ _ _ (h.2 q)⟩ | (rename_i e1; simp only [e1]; exact ⟨h.1, fun q => hP _ _ _ _ (h.2 q)⟩)
    · exact h.elim
  · unfold s_aald at h ⊢; split at h
    · split at h <;> first | exact h.elim | exact ⟨h.1, hP _ _ _ _ h.2⟩ | (rename_i e1; simp only [e1]; exact ⟨h.1, hP _ _ _ _ h.2⟩)
    · exact h.elim
  · unfold s_iast at h ⊢; split at h
    · split at h <;> first | exact h.elim | exact ⟨h.1, hP _ _ _ _ h.2⟩ | (rename_i e1; simp only [e1]; exact ⟨h.1, hP _ _ _ _ h.2⟩)
    · exact h.elim
  · unfold s_cast at h ⊢; split at h
    · split at h <;> first | exact h.elim | exact ⟨h.1, hP _ _ _ _ h.2⟩ | (rename_i e1; simp only [e1]; exact ⟨h.1, hP _ _ _ _ h.2⟩)
    · exact h.elim
  · unfold s_get at h ⊢; split at h
    · split at h
      · rename_i e0
        split at h
        · rename_i e2
          split at h <;> first | exact h.elim | first | exact hP _ _ _ _ h | exact fun q => hP _ _ _ _ (h q) | (rename_i e1; simp only [e0, e1, if_pos e2]; first | exact hP _ _ _ _ h | exact fun q => hP _ _ _ _ (h q))
        · exact h.elim
      · exact h.elim
    · exact h.elim
  · unfold s_put at h ⊢; split at h
    · split at h
      · rename_i e0
        split at h
        · rename_i e2
          split at h
          · rename_i e1
            simp only [e0, e1, if_pos e2]
            exact ⟨h.1, hP _ _ _ _ h.2⟩
          · exact h.elim
        · exact h.elim
      · exact h.elim
    · exact h.elim
  · unfold s_put at h ⊢; split at h
    · split at h
      · rename_i e0
        split at h
        · rename_i e2
          split at h
          · rename_i e1
            simp only [e0, e1, if_pos e2]
            exact ⟨h.1, hP _ _ _ _ h.2⟩
          · exact h.elim
        · exact h.elim
      · exact h.elim
    · exact h.elim
  · unfold s_i2c at h ⊢; split at h <;> first | exact h.elim | exact ⟨h.1, hP _ _ _ _ h.2⟩
  · unfold s_copy at h ⊢; split at h
    · split at h
      · rename_i e0 e1
        split at h <;> first | exact h.elim | exact ⟨h.1, hP _ _ _ _ h.2⟩ | (rename_i e2; simp only [e0, e1, if_pos e2]; exact ⟨h.1, hP _ _ _ _ h.2⟩)
      · exact h.elim
    · exact h.elim
  · unfold s_call at h ⊢; split at h
    · rename_i e0
      split at h <;> first | exact h.elim | exact hΓ _ _ _ _ _ (hc _ _ _) h | (rename_i e2; simp only [e0, if_pos e2]; exact hΓ _ _ _ _ _ (hc _ _ _) h)
    · exact h.elim
  · unfold s_callV at h ⊢; split at h
    · rename_i e0
      split at h
      · rename_i e1
        split at h
        · rename_i e3
          split at h <;> first | exact h.elim | exact hΓ _ _ _ _ _ (hc _ _ _) h | (rename_i e2; simp only [e0, e1, if_pos e2, if_pos e3]; exact hΓ _ _ _ _ _ (hc _ _ _) h)
        · exact h.elim
      · exact h.elim
    · exact h.elim
  · unfold s_call at h ⊢; split at h
    · rename_i e0
      split at h <;> first | exact h.elim | exact hΓ _ _ _ _ _ (hc _ _ _) h | (rename_i e2; simp only [e0, if_pos e2]; exact hΓ _ _ _ _ _ (hc _ _ _) h)
    · exact h.elim
  · unfold s_min at h ⊢; split at h
    · split at h <;> first | exact h.elim | exact ⟨h.1, hP _ _ _ _ h.2⟩ | (rename_i e2; simp only [if_pos e2]; exact ⟨h.1, hP _ _ _ _ h.2⟩)
    · exact h.elim
  · unfold s_max at h ⊢; split at h
    · split at h <;> first | exact h.elim | exact ⟨h.1, hP _ _ _ _ h.2⟩ | (rename_i e2; simp only [if_pos e2]; exact ⟨h.1, hP _ _ _ _ h.2⟩)
    · exact h.elim
  · unfold s_abs at h ⊢; split at h
    · split at h <;> first | exact h.elim | exact ⟨h.1, hP _ _ _ _ h.2⟩ | (rename_i e2; simp only [if_pos e2]; exact ⟨h.1, hP _ _ _ _ h.2⟩)
    · exact h.elim
  · unfold s_ret at h ⊢; split at h <;> first | exact h.elim | exact hQ _ _ h
  · unfold s_retZ at h ⊢; split at h <;> first | exact h.elim | exact ⟨h.1, hQ _ _ h.2⟩
  · unfold s_retA at h ⊢; split at h <;> first | exact h.elim | exact hQ _ _ h
  · unfold s_retV at h ⊢; split at h <;> first | exact h.elim | exact hQ _ _ h
  · unfold s_shr at h ⊢; split at h <;> first | exact h.elim | exact ⟨h.1, hP _ _ _ _ h.2⟩
  · unfold s_and at h ⊢; split at h <;> first | exact h.elim | exact ⟨h.1, hP _ _ _ _ h.2⟩
  · unfold s_scrLen at h ⊢; split at h <;> first | exact h.elim | exact hP _ _ _ _ h
  · unfold s_scr at h ⊢; split at h <;> first | exact h.elim | exact ⟨h.1, fun q => hP _ _ _ _ (h.2 q)⟩
  · exact h.elim
theorem wpm_mono (Γ : Gam) (hΓ : gmono Γ) : gmono (wpm Γ) := fun y as σ Q Q' hQ h P hP => h P fun pc ls st σ q => hP pc ls st σ (stp_mono hΓ hQ (fun _ _ _ _ q => q) q)
theorem WPd_mono : ∀ d, gmono (WPd d)
  | 0 => fun _ _ _ _ _ _ h => h
  | d + 1 => wpm_mono _ (WPd_mono d)
def inL : List Nat → Nat → Bool
  | [], _ => false
  | a :: t, n => bif Nat.beq a n then true else inL t n
/-- the twin's run as a predicate, n steps far, up to the cuts -/
def runs (Γ : Gam) (Q : Post) (P : Ctx) (t : List (Nat × List (Nat × AMI))) (cuts : List Nat) : Nat → Ctx
  | 0 => P
  | n + 1 => fun pc ls st σ => match inL cuts pc with
    | true => P pc ls st σ
    | false => stp Γ Q (runs Γ Q P t cuts n) ls st σ (lk2 t pc)
theorem runs_to {Γ : Gam} {Q : Post} {P : Ctx} {t : List (Nat × List (Nat × AMI))} {cuts : List Nat} (hΓ : gmono Γ) (hP : ∀ pc ls st σ, stp Γ Q P ls st σ (lk2 t pc) → P pc ls st σ) : ∀ (n pc : Nat) (ls st : List AV) (σ : Sto), runs Γ Q P t cuts n pc ls st σ → P pc ls st σ
  | 0, _, _, _, _, h => h
  | n + 1, pc, ls, st, σ, h => by
    unfold runs at h
    split at h
    · exact h
    · exact hP pc ls st σ (stp_mono hΓ (fun _ _ q => q) (runs_to hΓ hP n) h)
/-- from a place on: the run, n steps far -/
theorem go {Γ : Gam} {Q : Post} {P : Ctx} {t : List (Nat × List (Nat × AMI))} (hΓ : gmono Γ) (hP : ∀ pc ls st σ, stp Γ Q P ls st σ (lk2 t pc) → P pc ls st σ) (n : Nat) (cuts : List Nat) {pc : Nat} {ls st : List AV} {σ : Sto} (h : stp Γ Q (runs Γ Q P t cuts n) ls st σ (lk2 t pc)) : P pc ls st σ := hP pc ls st σ (stp_mono hΓ (fun _ _ q => q) (runs_to hΓ hP n) h)
end
section
/-! THE SCRIPT: what every method may take of the state beside the cells -/
def SWd (ad : Nat → Int → Nat) (L : Nat) (xs : Nat → Int32) (cy : Nat → ClassId) (D : va_G) (A0 : Nat → Prop) (U : State) : Prop :=
  va_K D vwCl (tysW cy) U ∧ va_Nw (.methodLinkNest RX2 173 yX4_isWithin RX4) U ∧ va_X (ad 41 0) L xs U U.heap ∧ ad 41 0 < U.heap.size ∧ ¬ A0 (ad 41 0)
theorem SWd_b {ad : Nat → Int → Nat} {L : Nat} {xs : Nat → Int32} {cy : Nat → ClassId} {D : va_G} {A0 : Nat → Prop} (U : State) (g : JFrame) (mk : MethodId) (a : Array Value) (h : SWd ad L xs cy D A0 U) : SWd ad L xs cy D A0 (U.calling g mk a) := by
  obtain ⟨h1, h2, h3, h4, h5⟩ := h
  have hv : (U.calling g mk a).vm = U.vm := rfl
  have ha : U.vm.Alike (U.calling g mk a).vm := Vm.Alike.refl U.vm
  exact ⟨va_K.moved ha h1, va_Nw.same rfl hv.symm h2, va_X.moved ha h3, h4, h5⟩
theorem SWd_H {ad : Nat → Int → Nat} {L : Nat} {xs : Nat → Int32} {cy : Nat → ClassId} {D : va_G} {A0 : Nat → Prop} {s U : State} {H : Heap} {locs : List Loc} (h : SWd ad L xs cy D A0 s) (hS : va_S A0 s.heap H locs) (hU : U.heap = H) (hW : s.WarmedH U.vm) : SWd ad L xs cy D A0 U := by
  obtain ⟨h1, h2, h3, h4, h5⟩ := h
  have ha : s.vm.Alike U.vm := hW.alike
  refine ⟨va_K.moved ha h1, va_Nw.warmM hW h2, ?_, ?_, h5⟩
  · rw [hU]
    exact (va_X.moved ha h3).kept (hS.2.1 _ h4 h5)
  · rw [hU]
    exact Nat.lt_of_lt_of_le h4 hS.1
end
section
/-! EVERY METHOD: what the twin says of it, it does -/
def tbOk (y : Nat) : Bool := (tbl y).all fun c => c.2.all fun q => chkI (mB y) (mC y) (mL y) (mR y) q.1 q.2
set_option maxRecDepth 100000 in
theorem tb_ok0 : ((List.range 12).map (fun k => 0 + k)).all tbOk = true := by decide +kernel
set_option maxRecDepth 100000 in
theorem tb_ok1 : ((List.range 12).map (fun k => 12 + k)).all tbOk = true := by decide +kernel
set_option maxRecDepth 100000 in
theorem tb_ok2 : ((List.range 12).map (fun k => 24 + k)).all tbOk = true := by decide +kernel
set_option maxRecDepth 100000 in
theorem tb_ok3 : ((List.range 12).map (fun k => 36 + k)).all tbOk = true := by decide +kernel
set_option maxRecDepth 100000 in
theorem tb_ok4 : ((List.range 12).map (fun k => 48 + k)).all tbOk = true := by decide +kernel
set_option maxRecDepth 100000 in
theorem tb_ok5 : ((List.range 12).map (fun k => 60 + k)).all tbOk = true := by decide +kernel
set_option maxRecDepth 100000 in
theorem tb_ok6 : ((List.range 6).map (fun k => 72 + k)).all tbOk = true := by decide +kernel
theorem tb_of {n c y : Nat} (h : ((List.range n).map (fun k => c + k)).all tbOk = true) (h1 : c ≤ y) (h2 : y < c + n) : tbOk y = true := List.all_eq_true.mp h y (List.mem_map.mpr ⟨y - c, List.mem_range.mpr (by omega), by omega⟩)
theorem tb_ok {y : Nat} (h : y < NMs) : tbOk y = true := by
  have h : y < 78 := h
  rcases (show (0 ≤ y ∧ y < 12) ∨ (12 ≤ y ∧ y < 24) ∨ (24 ≤ y ∧ y < 36) ∨ (36 ≤ y ∧ y < 48) ∨ (48 ≤ y ∧ y < 60) ∨ (60 ≤ y ∧ y < 72) ∨ (72 ≤ y ∧ y < 78) by omega) with ⟨a, b⟩ | ⟨a, b⟩ | ⟨a, b⟩ | ⟨a, b⟩ | ⟨a, b⟩ | ⟨a, b⟩ | ⟨a, b⟩
  · exact tb_of tb_ok0 a b
  · exact tb_of tb_ok1 a b
  · exact tb_of tb_ok2 a b
  · exact tb_of tb_ok3 a b
  · exact tb_of tb_ok4 a b
  · exact tb_of tb_ok5 a b
  · exact tb_of tb_ok6 a b
end
section
theorem lk_mem : ∀ (l : List (Nat × AMI)) (n : Nat), lk l n = (99, 0, 0, 0, 0, 0) ∨ (n, lk l n) ∈ l
  | [], _ => Or.inl rfl
  | (a, i) :: t, n => by
    unfold lk
    cases h : Nat.beq a n with
    | true =>
      have e := Nat.eq_of_beq_eq_true h
      subst e
      exact Or.inr List.mem_cons_self
    | false =>
      rcases lk_mem t n with q | q
      · exact Or.inl q
      · exact Or.inr (List.mem_cons_of_mem _ q)
theorem lk2_mem : ∀ (l : List (Nat × List (Nat × AMI))) (n : Nat), lk2 l n = (99, 0, 0, 0, 0, 0) ∨ ∃ c ∈ l, (n, lk2 l n) ∈ c.2
  | [], _ => Or.inl rfl
  | (b, r) :: t, n => by
    unfold lk2
    cases h : Nat.blt n b with
    | true =>
      rcases lk_mem r n with q | q
      · exact Or.inl q
      · exact Or.inr ⟨_, List.mem_cons_self, q⟩
    | false =>
      rcases lk2_mem t n with q | ⟨c, hc, q⟩
      · exact Or.inl q
      · exact Or.inr ⟨c, List.mem_cons_of_mem _ hc, q⟩
theorem tb_chk {y : Nat} (h : y < NMs) (pc : Nat) : lk2 (tbl y) pc = (99, 0, 0, 0, 0, 0) ∨ chkI (mB y) (mC y) (mL y) (mR y) pc (lk2 (tbl y) pc) = true := by
  rcases lk2_mem (tbl y) pc with q | ⟨c, hc, q⟩
  · exact Or.inl q
  · exact Or.inr (List.all_eq_true.mp (List.all_eq_true.mp (tb_ok h) c hc) _ q)
section AMX
variable {p : Program} {l : Launch} {e : Env} {R : Room} {s : State} {m : MethodId} {args : Array Value} {below : List Frame} {meth : Method} {c : Code} {cells slots : Nat} {Qw : State → Prop} {ad : Nat → Int → Nat} {L : Nat} {xs : Nat → Int32} {cy : Nat → ClassId} {D : va_G} {A0 : Nat → Prop} {nL : Nat} {cc : ByteArray} {pc : Nat} {ls st : List AV} {σ σz : Sto} {own : String}
theorem lg_len (as : List AV) : (lg_sl (as.map (conc ad))).length = as.length := by
  induction as with
  | nil => rfl
  | cons v as ih =>
    have : lg_sl ((v :: as).map (conc ad)) = Slot.val (conc ad v) :: lg_sl (as.map (conc ad)) := by
      simp only [lg_sl, List.map_cons, List.flatMap_cons, cat1]
      rfl
    rw [this, List.length_cons, ih, List.length_cons]
theorem lv_args_eq : ∀ (as : List AV) (i : Nat), lv_args i (as.map (conc ad)) = (as.zipIdx i).map fun q => (q.2, conc ad q.1)
  | [], _ => rfl
  | v :: as, i => by
    rw [List.map_cons, lv_args, if_neg (by rw [cat1]; decide), lv_args_eq as (i + 1), List.zipIdx_cons, List.map_cons]
def rmD (d : Nat) : Room := { frames := d + 1, cells := 0, slots := 0, locals := 30 * (d + 3) }
theorem isSp_of {op : Nat} (h : isSp op = true) : op = 40 ∨ op = 41 ∨ op = 42 ∨ op = 43 ∨ op = 48 ∨ op = 50 := by
  unfold isSp at h
  have e : ∀ k, Nat.beq op k = true → op = k := fun k h => Nat.eq_of_beq_eq_true h
  simp only [Bool.or_eq_true] at h
  rcases h with ((((h | h) | h) | h) | h) | h <;> (have := e _ h; omega)
theorem w_scrLen {σy : Sto} {nx : Nat} (hx : p.tables.exec = Jvm.exec) (hb : c.code = cc) (hSW : SWd ad L xs cy D A0 s) (hd : decode cc pc = .ok (.arraylength, 1) ∧ nx = pc + 1) (hz : σz 41 0 = σy 41 0) (z1 : σy 41 0 (-1) = L) (h : s_scrLen (AMW p l e R s m args below meth c cells slots Qw ad cy D A0 s.heap nL σz) ls st σ nx) : AMW p l e R s m args below meth c cells slots Qw ad cy D A0 s.heap nL σz pc ls st σ := by
  intro H locs lsl hP hS hl hls hst hσ
  obtain ⟨hd, rfl⟩ := hd
  unfold s_scrLen at h
  split at h
  · rename_i i' st'
    have hok : 0 ≤ i' ∧ i' < cntK 41 := ok_head hst
    have e0 : i' = 0 := by
      have : cntK 41 = 1 := rfl
      omega
    subst e0
    have k := h H locs lsl hP hS hl hls (ok_cons trivial (ok_tail hst)) hσ
    rw [hσ.2 41 0 (by decide), hz, z1] at k
    refine va_slen hx hb hSW.2.2.1 hSW.2.2.2.1 hSW.2.2.2.2 hS hd ?_
    have e9 : Int32.ofInt (L : Int) = Int32.ofNat L := Int32.ofInt_eq_ofNat
    rw [← e9]
    exact k
  · exact h.elim
theorem w_scr {σy : Sto} {nx : Nat} (hx : p.tables.exec = Jvm.exec) (hb : c.code = cc) (hSW : SWd ad L xs cy D A0 s) (hLn : L ≤ 260) (hd : decode cc pc = .ok (.iaload, 1) ∧ nx = pc + 1) (hz : σz 41 0 = σy 41 0) (z1 : σy 41 0 (-1) = L) (z2 : ∀ j : Nat, j < L → Int32.ofInt (σy 41 0 j) = xs j) (h : s_scr (AMW p l e R s m args below meth c cells slots Qw ad cy D A0 s.heap nL σz) ls st σ nx) : AMW p l e R s m args below meth c cells slots Qw ad cy D A0 s.heap nL σz pc ls st σ := by
  intro H locs lsl hP hS hl hls hst hσ
  obtain ⟨hd, rfl⟩ := hd
  unfold s_scr at h
  split at h
  · rename_i j i' st'
    obtain ⟨⟨j0, j1⟩, h⟩ := h
    have hok : 0 ≤ i' ∧ i' < cntK 41 := ok_head (ok_tail hst)
    have e0 : i' = 0 := by
      have : cntK 41 = 1 := rfl
      omega
    subst e0
    have k := h (hσ.1 41 0 j) H locs lsl hP hS hl hls (ok_cons trivial (ok_tail (ok_tail hst))) hσ
    rw [hσ.2 41 0 (by decide), hz] at k j1
    rw [z1] at j1
    have hin := oi_in j0 j1 (by omega)
    rw [Int.toNat_natCast] at hin
    refine va_sld hx hb hSW.2.2.1 hSW.2.2.2.1 hSW.2.2.2.2 hS hin hd ?_
    rw [oi_cl j0 (by omega)]
    have z := z2 j.toNat (by omega)
    rw [Int.toNat_of_nonneg j0] at z
    rw [← z]
    exact k
  · exact h.elim
theorem sound (l : Launch) (hD : ∀ σ, va_D A0 (cellsW ad cy σ)) (hLn : L ≤ 260) (z1 : σz 41 0 (-1) = L) (z2 : ∀ j : Nat, j < L → Int32.ofInt (σz 41 0 j) = xs j) : ∀ (d y : Nat) (as : List AV) (σ : Sto) (Q : Post), y < NMs → WPd d y as σ Q → as.length = mA y → (∀ v ∈ as, okv v) → okS σz σ → MetY l ad cy D (SWd ad L xs cy D A0) A0 (rmD d) y as σ Q
  | 0, _, _, _, _, _, h, _, _, _ => h.elim
  | d + 1, y, as, σ, Q, hy, h, hlen, hok, hσz => by
    have hσ : okS σ σ := ⟨hσz.1, fun _ _ _ => rfl⟩
    have z41 : σ 41 0 = σz 41 0 := hσz.2 41 0 (by decide)
    obtain ⟨m1, -, -, mc, -, -, -, mp, -, m7, m8, m9⟩ := mw_facts hy
    refine Met.ofW (cc := mB y) (maxL := mL y) (ret := mR y) mp rfl ?_
    intro p e s m args below meth c s₁ B hml hv
    obtain ⟨rfl, hP, hSW⟩ := hv
    have hx := B.exec
    have hb := B.bytes
    have hr := B.returns
    have hts : ∀ w ∈ BG, w.before _ s = true := fun w hw => atoms_spec B.pre w (List.mem_cons_of_mem _ hw)
    have hown0 := findClass_of_methodNamed B.named
    have hown : s.vm.findClass (RXn (mC y)) = some m.cls := by
      rw [← mc]
      exact hown0
    have hlocks := B.notSynchronized
    have hS : va_S A0 s.heap s.heap [] := va_S.rf
    have hl := lv_entry (as.map (conc ad)) (n := mL y) (by rw [lg_len]; omega)
    rw [lg_entry_eq]
    generalize (lg_sl (as.map (conc ad)) ++ List.replicate (mL y - (lg_sl (as.map (conc ad))).length) Slot.unset).toArray = lsl at hl ⊢
    have hl2 : lv_has lsl (mL y) (lmp ad as) := by
      rw [lv_args_eq] at hl
      exact hl
    have key : AMW p l e (headSpec (codeW y :: BG) (rmD (d + 1))).room s m (as.map (conc ad)).toArray below meth c 0 0 (MQ below (QmW ad cy D (SWd ad L xs cy D A0) A0 σ Q) (as.map (conc ad)).toArray s 0 0 A0) ad cy D A0 s.heap (mL y) σ 0 as [] σ := by
      apply h
      intro pc ls st σ1 hs
      have hRf : (headSpec (codeW y :: BG) (rmD (d + 1))).room.frames = d + 1 + 1 := rfl
      have hRl : (headSpec (codeW y :: BG) (rmD (d + 1))).room.locals = 30 * (d + 1 + 3) := rfl
      rcases tb_chk hy pc with hj | hc
      · rw [hj] at hs
        exact hs.elim
      · refine w_step (Γ := WPd d) (Q := Q) (rm := rmD d) (oc := mC y) (rk := mR y) (SW := SWd ad L xs cy D A0) hx hb hml hts hown hSW.1 hD ⟨by omega, by omega⟩ ⟨Nat.zero_le _, Nat.zero_le _⟩ SWd_b (fun H locs U h1 h2 h3 => SWd_H hSW h1 h2 h3) hSW.2.1 (fun y as σ Q g1 g2 g3 g4 g5 => sound l hD hLn z1 z2 d y as σ Q g1 g2 g3 g4 (okS_tr hσz g5)) ⟨rfl, rfl, by rw [hRf]; exact Nat.le_of_eq (by show d + 1 + 1 = _; omega), by rw [hRl]; show 30 + 30 * (d + 3) ≤ _; omega⟩ hc (fun hsp => ?_) hs
        have hfin : ∀ (r : Option AV) (H : Heap) (locs : List Loc), Q r σ1 → (∀ v, r = some v → okv v) → okS σ σ1 → va_P D vwCl (cellsW ad cy σ1) H → va_S A0 s.heap H locs → ∀ t : State, t.heap = H → s.WarmedH t.vm → QmW ad cy D (SWd ad L xs cy D A0) A0 σ Q (as.map (conc ad)).toArray s (.returned (r.map (conc ad))) t := fun r H locs q1 q2 q3 q4 q5 t ht hW => ⟨⟨r, σ1, rfl, q1, q3, q2, by rw [ht]; exact q4, SWd_H hSW q5 ht hW⟩, q5.F ht⟩
        generalize lk2 (tbl y) pc = ins at hs hc hsp
        obtain ⟨op, a, b, i3, i4, nx⟩ := ins
        rcases isSp_of hsp with e | e | e | e | e | e <;> (dsimp only at e; subst e; simp only [chkI] at hc; have hc := of_decide_eq_true hc; simp only [stp] at hs)
        · unfold s_ret at hs
          split at hs
          · rename_i v
            intro H locs lsl2 hP2 hS2 hl3 hls hst hσ2
            rw [hc.2] at hr
            exact W.iret hx hb hr (hfin (some (.inl v)) H locs hs (fun _ q => by cases q; trivial) hσ2 hP2 hS2) hS2.2.2 hc.1 hlocks
          · exact hs.elim
        · unfold s_retZ at hs
          split at hs
          · rename_i v
            intro H locs lsl2 hP2 hS2 hl3 hls hst hσ2
            rw [hc.2] at hr
            exact W.zret hx hb hr (by rcases hs.1 with rfl | rfl <;> rfl) (hfin (some (.inl v)) H locs hs.2 (fun _ q => by cases q; trivial) hσ2 hP2 hS2) hS2.2.2 hc.1 hlocks
          · exact hs.elim
        · unfold s_retA at hs
          split at hs
          · rename_i v
            intro H locs lsl2 hP2 hS2 hl3 hls hst hσ2
            rw [hc.2] at hr
            obtain ⟨k, i⟩ := v
            exact W.aret (v := .ref (ad k i)) hx hb hr (Or.inr ⟨_, rfl⟩) (Or.inr ⟨_, rfl⟩) (hfin (some (.inr (k, i))) H locs hs (fun _ q => by cases q; exact ok_head hst) hσ2 hP2 hS2) hS2.2.2 hc.1 hlocks
          · exact hs.elim
        · unfold s_retV at hs
          split at hs
          · intro H locs lsl2 hP2 hS2 hl3 hls hst hσ2
            rw [hc.2] at hr
            exact W.vret hx hb hr (hfin none H locs hs (fun _ q => by cases q) hσ2 hP2 hS2) hS2.2.2 hc.1 hlocks
          · exact hs.elim
        · exact w_scrLen hx hb hSW hc.2 z41 z1 hs
        · exact w_scr hx hb hSW hLn hc.2 z41 z1 z2 hs
    exact key s.heap [] lsl hP hS hl2 hok (fun v h => by cases h) hσ
end AMX
end
section
/-! THE CLASS Core: what its methods do to the store -/
def setR (σ : Sto) (k : Nat) (i : Int) (g : Int → Int) : Sto := fun k' i' => if k' = k ∧ i' = i then g else σ k' i'
theorem setR_same {σ : Sto} {k : Nat} {i : Int} {g : Int → Int} : setR σ k i g k i = g := if_pos ⟨rfl, rfl⟩
theorem setR_ne {σ : Sto} {k k' : Nat} {i i' : Int} {g : Int → Int} (h : ¬ (k' = k ∧ i' = i)) : setR σ k i g k' i' = σ k' i' := if_neg h
theorem setR_nk {σ : Sto} {k k' : Nat} {i i' : Int} {g : Int → Int} (h : k' ≠ k) : setR σ k i g k' i' = σ k' i' := if_neg fun e => h e.1
theorem upS_setR {σ : Sto} {k : Nat} {i j v : Int} : upS σ k i j v = setR σ k i (fun j' => if j' = j then v else σ k i j') := by
  funext k' i' j'
  unfold upS setR
  by_cases h : k' = k ∧ i' = i
  · obtain ⟨rfl, rfl⟩ := h
    simp
  · rw [if_neg (fun e => h ⟨e.1, e.2.1⟩), if_neg h]
theorem setR_setR {σ : Sto} {k : Nat} {i : Int} {g g' : Int → Int} : setR (setR σ k i g) k i g' = setR σ k i g' := by
  funext k' i'
  unfold setR
  by_cases h : k' = k ∧ i' = i
  · rw [if_pos h, if_pos h]
  · rw [if_neg h, if_neg h, if_neg h]
theorem setR_id {σ : Sto} {k : Nat} {i : Int} : setR σ k i (σ k i) = σ := by
  funext k' i'
  unfold setR
  by_cases h : k' = k ∧ i' = i
  · rw [if_pos h, h.1, h.2]
  · rw [if_neg h]
theorem setR_ni {σ : Sto} {k k' : Nat} {i i' : Int} {g : Int → Int} (h : i' ≠ i) : setR σ k i g k' i' = σ k' i' := if_neg fun e => h e.2
theorem cpS_setR {σ : Sto} {k1 k2 : Nat} {i1 i2 sp dp n : Int} : cpS σ k1 i1 sp k2 i2 dp n = setR σ k2 i2 (fun j => if dp ≤ j ∧ j < dp + n then σ k1 i1 (sp + (j - dp)) else σ k2 i2 j) := by
  funext k' i' j'
  unfold cpS setR
  by_cases h : k' = k2 ∧ i' = i2
  · obtain ⟨rfl, rfl⟩ := h
    simp
  · rw [if_neg (fun e => h ⟨e.1, e.2.1⟩), if_neg h]
theorem setR_cg {σ : Sto} {k : Nat} {i : Int} {g g' : Int → Int} (h : ∀ j, g j = g' j) : setR σ k i g = setR σ k i g' := by rw [show g = g' from funext h]
def insF (f : Int → Int) (a z x : Int) : Int → Int := fun j => if a < j ∧ j ≤ z then f (j - 1) else if j = a then x else f j
def delF (f : Int → Int) (a z : Int) : Int → Int := fun j => if a ≤ j ∧ j + 1 < z then f (j + 1) else f j
theorem t_X0_insertAt {d : Nat} (hd : 1 ≤ d) {σ : Sto} {Q : Post} {k : Nat} {c a z x len : Int} (hk : lenI k = some len) (hr : inR x) (h0 : 0 ≤ a) (h1 : a ≤ z) (h2 : z < len) (h3 : len ≤ 1000) (h : Q none (setR σ k c (insF (σ k c) a z x))) : WPd d m_X0_insertAt [.inr (k, c), .inl a, .inl z, .inl x] σ Q := by
  obtain ⟨d, rfl⟩ : ∃ k, d = k + 1 := ⟨d - 1, by omega⟩
  intro P hP
  have L : ∀ (n : Nat) (i : Int) (g : Int → Int), n = (i - a).toNat → a ≤ i → i ≤ z → (∀ j, g j = if i < j ∧ j ≤ z then σ k c (j - 1) else σ k c j) → P 3 [.inr (k, c), .inl a, .inl z, .inl x, .inl i] [] (setR σ k c g) := by
    intro n
    induction n with
    | zero =>
      intro i g hn hi hz hg
      (refine go (t := tb_X0_insertAt) (WPd_mono d) hP 30 [3] ?_; (conv => whnf); (repeat' (first | (refine ⟨fun _ => ?_, fun _ => ?_⟩ <;> first | (exfalso; omega) | (conv => whnf)) | (refine ⟨by omega, ?_⟩; conv => whnf) | (intro _; conv => whnf))))
      simp only [hk]
      ((conv => whnf); (repeat' (first | (refine ⟨fun _ => ?_, fun _ => ?_⟩ <;> first | (exfalso; omega) | (conv => whnf)) | (refine ⟨by omega, ?_⟩; conv => whnf) | (intro _; conv => whnf))))
      rw [upS_setR, setR_same, setR_setR, setR_cg (g' := insF (σ k c) a z x) (fun j => ?_)]
      · exact h
      · try dsimp only
        rw [hg]
        unfold insF
        by_cases q : j = a
        · rw [if_pos (by omega), if_neg (by omega), if_pos q]
        · rw [if_neg (by omega), if_neg q]
          by_cases q2 : a < j ∧ j ≤ z
          · rw [if_pos (by omega), if_pos q2]
          · rw [if_neg (by omega), if_neg q2]
    | succ n ih =>
      intro i g hn hi hz hg
      (refine go (t := tb_X0_insertAt) (WPd_mono d) hP 30 [3] ?_; (conv => whnf); (repeat' (first | (refine ⟨fun _ => ?_, fun _ => ?_⟩ <;> first | (exfalso; omega) | (conv => whnf)) | (refine ⟨by omega, ?_⟩; conv => whnf) | (intro _; conv => whnf))))
      simp only [hk]
      ((conv => whnf); (repeat' (first | (refine ⟨fun _ => ?_, fun _ => ?_⟩ <;> first | (exfalso; omega) | (conv => whnf)) | (refine ⟨by omega, ?_⟩; conv => whnf) | (intro _; conv => whnf))))
      simp only [hk]
      ((conv => whnf); (repeat' (first | (refine ⟨fun _ => ?_, fun _ => ?_⟩ <;> first | (exfalso; omega) | (conv => whnf)) | (refine ⟨by omega, ?_⟩; conv => whnf) | (intro _; conv => whnf))))
      rw [upS_setR, setR_same, setR_setR]
      refine ih (i + (-1)) _ (by omega) (by omega) (by omega) (fun j => ?_)
      try dsimp only
      by_cases q : j = i
      · rw [if_pos q, if_pos (by omega), hg, if_neg (by omega), q]
      · rw [if_neg q, hg]
        by_cases q2 : i < j ∧ j ≤ z
        · rw [if_pos q2, if_pos (by omega)]
        · rw [if_neg q2, if_neg (by omega)]
  (refine go (t := tb_X0_insertAt) (WPd_mono d) hP 30 [3] ?_; (conv => whnf); (repeat' (first | (refine ⟨fun _ => ?_, fun _ => ?_⟩ <;> first | (exfalso; omega) | (conv => whnf)) | (refine ⟨by omega, ?_⟩; conv => whnf) | (intro _; conv => whnf))))
  have e : σ = setR σ k c (σ k c) := setR_id.symm
  rw [e]
  refine L _ z _ rfl h1 (by omega) (fun j => ?_)
  rw [if_neg (by omega)]
theorem t_X0_deleteAt {d : Nat} (hd : 1 ≤ d) {σ : Sto} {Q : Post} {k : Nat} {c a z len : Int} (hk : lenI k = some len) (h0 : 0 ≤ a) (h1 : a < z) (h2 : z ≤ len) (h3 : len ≤ 1000) (h : Q none (setR σ k c (delF (σ k c) a z))) : WPd d m_X0_deleteAt [.inr (k, c), .inl a, .inl z] σ Q := by
  obtain ⟨d, rfl⟩ : ∃ k, d = k + 1 := ⟨d - 1, by omega⟩
  intro P hP
  have L : ∀ (n : Nat) (i : Int) (g : Int → Int), n = (z - i).toNat → a < i → i ≤ z → (∀ j, g j = if a ≤ j ∧ j + 1 < i then σ k c (j + 1) else σ k c j) → P 4 [.inr (k, c), .inl a, .inl z, .inl i] [] (setR σ k c g) := by
    intro n
    induction n with
    | zero =>
      intro i g hn hi hz hg
      (refine go (t := tb_X0_deleteAt) (WPd_mono d) hP 30 [4] ?_; (conv => whnf); (repeat' (first | (refine ⟨fun _ => ?_, fun _ => ?_⟩ <;> first | (exfalso; omega) | (conv => whnf)) | (refine ⟨by omega, ?_⟩; conv => whnf) | (intro _; conv => whnf))))
      rw [setR_cg (g' := delF (σ k c) a z) (fun j => ?_)]
      · exact h
      · rw [hg]
        unfold delF
        rw [show i = z by omega]
    | succ n ih =>
      intro i g hn hi hz hg
      (refine go (t := tb_X0_deleteAt) (WPd_mono d) hP 30 [4] ?_; (conv => whnf); (repeat' (first | (refine ⟨fun _ => ?_, fun _ => ?_⟩ <;> first | (exfalso; omega) | (conv => whnf)) | (refine ⟨by omega, ?_⟩; conv => whnf) | (intro _; conv => whnf))))
      simp only [hk]
      ((conv => whnf); (repeat' (first | (refine ⟨fun _ => ?_, fun _ => ?_⟩ <;> first | (exfalso; omega) | (conv => whnf)) | (refine ⟨by omega, ?_⟩; conv => whnf) | (intro _; conv => whnf))))
      simp only [hk]
      ((conv => whnf); (repeat' (first | (refine ⟨fun _ => ?_, fun _ => ?_⟩ <;> first | (exfalso; omega) | (conv => whnf)) | (refine ⟨by omega, ?_⟩; conv => whnf) | (intro _; conv => whnf))))
      rw [upS_setR, setR_same, setR_setR]
      refine ih (i + 1) _ (by omega) (by omega) (by omega) (fun j => ?_)
      try dsimp only
      by_cases q : j = i - 1
      · rw [if_pos q, if_pos (by omega), hg, if_neg (by omega), q]
        congr 1
        omega
      · rw [if_neg q, hg]
        by_cases q2 : a ≤ j ∧ j + 1 < i
        · rw [if_pos q2, if_pos (by omega)]
        · rw [if_neg q2, if_neg (by omega)]
  (refine go (t := tb_X0_deleteAt) (WPd_mono d) hP 30 [4] ?_; (conv => whnf); (repeat' (first | (refine ⟨fun _ => ?_, fun _ => ?_⟩ <;> first | (exfalso; omega) | (conv => whnf)) | (refine ⟨by omega, ?_⟩; conv => whnf) | (intro _; conv => whnf))))
  have e : σ = setR σ k c (σ k c) := setR_id.symm
  rw [e]
  refine L _ (a + 1) _ rfl (by omega) (by omega) (fun j => ?_)
  rw [if_neg (by omega)]
/-- the place's ash in a row of n -/
def ashIx (f : Int → Int) (w : Int) : Nat → Int → Int
  | 0, _ => -1
  | n + 1, i => if f i = w then i else ashIx f w n (i + 1)
theorem ashIx_of (f : Int → Int) (w : Int) : ∀ (n : Nat) (i : Int), (ashIx f w n i = -1 ∧ ∀ j, i ≤ j → j < i + n → f j ≠ w) ∨ (i ≤ ashIx f w n i ∧ ashIx f w n i < i + n ∧ f (ashIx f w n i) = w)
  | 0, i => Or.inl ⟨rfl, fun j h1 h2 => by omega⟩
  | n + 1, i => by
    unfold ashIx
    by_cases h : f i = w
    · rw [if_pos h]
      exact Or.inr ⟨by omega, by omega, h⟩
    · rw [if_neg h]
      rcases ashIx_of f w n (i + 1) with ⟨a, b⟩ | ⟨a, b, c⟩
      · refine Or.inl ⟨a, fun j h1 h2 => ?_⟩
        by_cases e : j = i
        · rw [e]
          exact h
        · exact b j (by omega) (by omega)
      · exact Or.inr ⟨by omega, by omega, c⟩
theorem t_X0_ashAt {d : Nat} (hd : 1 ≤ d) {σ : Sto} {Q : Post} {c w : Int} (hw : inR w) (hn : 0 ≤ σ 16 c 8 ∧ σ 16 c 8 ≤ 6) (h : Q (some (.inl (ashIx (σ 20 c) w (σ 16 c 8).toNat 0))) σ) : WPd d m_X0_ashAt [.inr (16, c), .inl w] σ Q := by
  obtain ⟨d, rfl⟩ : ∃ k, d = k + 1 := ⟨d - 1, by omega⟩
  intro P hP
  have L : ∀ (n : Nat) (i : Int), n = (σ 16 c 8 - i).toNat → 0 ≤ i → i ≤ σ 16 c 8 → Q (some (.inl (ashIx (σ 20 c) w n i))) σ → P 2 [.inr (16, c), .inl w, .inl i] [] σ := by
    intro n
    induction n with
    | zero =>
      intro i hn0 h0 h1 hq
      (refine go (t := tb_X0_ashAt) (WPd_mono d) hP 30 [2] ?_; (conv => whnf); (repeat' (first | (refine ⟨fun _ => ?_, fun _ => ?_⟩ <;> first | (exfalso; omega) | (conv => whnf)) | (refine ⟨by omega, ?_⟩; conv => whnf) | (intro _; conv => whnf))))
      exact hq
    | succ n ih =>
      intro i hn0 h0 h1 hq
      (refine go (t := tb_X0_ashAt) (WPd_mono d) hP 30 [2] ?_; (conv => whnf); (repeat' (first | (refine ⟨fun _ => ?_, fun _ => ?_⟩ <;> first | (exfalso; omega) | (conv => whnf)) | (refine ⟨by omega, ?_⟩; conv => whnf) | (intro _; conv => whnf))))
      · exact ih (i + 1) (by omega) (by omega) (by omega) (by rwa [ashIx, if_neg (by omega)] at hq)
      · rwa [ashIx, if_pos (by omega)] at hq
  (refine go (t := tb_X0_ashAt) (WPd_mono d) hP 30 [2] ?_; (conv => whnf); (repeat' (first | (refine ⟨fun _ => ?_, fun _ => ?_⟩ <;> first | (exfalso; omega) | (conv => whnf)) | (refine ⟨by omega, ?_⟩; conv => whnf) | (intro _; conv => whnf))))
  exact L _ 0 (by omega) (by omega) (by omega) h
def lo (k : Int) : Int := if k = 1 then 0 else 1
def hi (k : Int) : Int := if k = 2 then 2 else 1
theorem lo_b (k : Int) : 0 ≤ lo k ∧ lo k ≤ 1 := by unfold lo; split <;> omega
theorem hi_b (k : Int) : 1 ≤ hi k ∧ hi k ≤ 2 := by unfold hi; split <;> omega
theorem t_X0_leastOwn {d : Nat} (hd : 1 ≤ d) {σ : Sto} {Q : Post} {c i : Int} (hi0 : 0 ≤ i ∧ i < 50) (h : Q (some (.inl (lo (σ 18 c i)))) σ) : WPd d m_X0_leastOwn [.inr (16, c), .inl i] σ Q := by
  obtain ⟨d, rfl⟩ : ∃ k, d = k + 1 := ⟨d - 1, by omega⟩
  intro P hP
  unfold lo at h
  (refine go (t := tb_X0_leastOwn) (WPd_mono d) hP 30 [] ?_; (conv => whnf); (repeat' (first | (refine ⟨fun _ => ?_, fun _ => ?_⟩ <;> first | (exfalso; omega) | (conv => whnf)) | (refine ⟨by omega, ?_⟩; conv => whnf) | (intro _; conv => whnf))))
  · rwa [if_neg (by assumption)] at h
  · rwa [if_pos (by assumption)] at h
theorem t_X0_mostOwn {d : Nat} (hd : 1 ≤ d) {σ : Sto} {Q : Post} {c i : Int} (hi0 : 0 ≤ i ∧ i < 50) (h : Q (some (.inl (hi (σ 18 c i)))) σ) : WPd d m_X0_mostOwn [.inr (16, c), .inl i] σ Q := by
  obtain ⟨d, rfl⟩ : ∃ k, d = k + 1 := ⟨d - 1, by omega⟩
  intro P hP
  unfold hi at h
  (refine go (t := tb_X0_mostOwn) (WPd_mono d) hP 30 [] ?_; (conv => whnf); (repeat' (first | (refine ⟨fun _ => ?_, fun _ => ?_⟩ <;> first | (exfalso; omega) | (conv => whnf)) | (refine ⟨by omega, ?_⟩; conv => whnf) | (intro _; conv => whnf))))
  · rwa [if_neg (by assumption)] at h
  · rwa [if_pos (by assumption)] at h
theorem t_X0_mostYears {d : Nat} (hd : 1 ≤ d) {σ : Sto} {Q : Post} {c i : Int} (hi0 : 0 ≤ i ∧ i < 50) (h : Q (some (.inl (hi (σ 18 c i) + σ 19 c i))) σ) : WPd d m_X0_mostYears [.inr (16, c), .inl i] σ Q := by
  obtain ⟨d, rfl⟩ : ∃ k, d = k + 1 := ⟨d - 1, by omega⟩
  intro P hP
  unfold hi at h
  (refine go (t := tb_X0_mostYears) (WPd_mono d) hP 30 [] ?_; (conv => whnf); (repeat' (first | (refine ⟨fun _ => ?_, fun _ => ?_⟩ <;> first | (exfalso; omega) | (conv => whnf)) | (refine ⟨by omega, ?_⟩; conv => whnf) | (intro _; conv => whnf))))
  · rwa [if_neg (by assumption)] at h
  · rwa [if_pos (by assumption)] at h
def oCst (k o f t : Int) : Int := if k = 1 ∧ o = 0 then f else if k = 2 ∧ o = 2 then t else 0
theorem t_X0_ownCost {d : Nat} (hd : 1 ≤ d) {σ : Sto} {Q : Post} {c i o : Int} (hi0 : 0 ≤ i ∧ i < 50) (ho : inR o) (h : Q (some (.inl (oCst (σ 18 c i) o (σ 23 c 0) (σ 23 c 1)))) σ) : WPd d m_X0_ownCost [.inr (16, c), .inl i, .inl o] σ Q := by
  obtain ⟨d, rfl⟩ : ∃ k, d = k + 1 := ⟨d - 1, by omega⟩
  intro P hP
  unfold oCst at h
  (refine go (t := tb_X0_ownCost) (WPd_mono d) hP 40 [] ?_; (conv => whnf); (repeat' (first | (refine ⟨fun _ => ?_, fun _ => ?_⟩ <;> first | (exfalso; omega) | (conv => whnf)) | (refine ⟨by omega, ?_⟩; conv => whnf) | (intro _; conv => whnf))))
  all_goals first | (rwa [if_pos (by omega)] at h) | (rwa [if_neg (by omega), if_pos (by omega)] at h) | (rwa [if_neg (by omega), if_neg (by omega)] at h)
theorem t_X0_missingCost {d : Nat} (hd : 1 ≤ d) {σ : Sto} {Q : Post} {c y : Int} (h : Q (some (.inl (y * σ 23 c 2))) σ) : WPd d m_X0_missingCost [.inr (16, c), .inl y] σ Q := by
  obtain ⟨d, rfl⟩ : ∃ k, d = k + 1 := ⟨d - 1, by omega⟩
  intro P hP
  (refine go (t := tb_X0_missingCost) (WPd_mono d) hP 30 [] ?_; (conv => whnf); (repeat' (first | (refine ⟨fun _ => ?_, fun _ => ?_⟩ <;> first | (exfalso; omega) | (conv => whnf)) | (refine ⟨by omega, ?_⟩; conv => whnf) | (intro _; conv => whnf))))
  exact h
def dif (a b : Int) : Int := max (a - b) (-(a - b))
def aCst (x a due u w : Int) : Int := if x = -1 then 0 else if u < dif a due then 268435456 else dif a due * w
theorem t_X0_ashCost {d : Nat} (hd : 1 ≤ d) {σ : Sto} {Q : Post} {c x a : Int} (hx : -1 ≤ x ∧ x < 6) (ha : 0 ≤ a ∧ a ≤ 1000) (hx2 : 0 ≤ x → 0 ≤ σ 21 c x ∧ σ 21 c x ≤ 1000) (h : Q (some (.inl (aCst x a (σ 21 c x) (σ 22 c x) (σ 23 c 3)))) σ) : WPd d m_X0_ashCost [.inr (16, c), .inl x, .inl a] σ Q := by
  obtain ⟨d, rfl⟩ : ∃ k, d = k + 1 := ⟨d - 1, by omega⟩
  intro P hP
  unfold aCst dif at h
  (refine go (t := tb_X0_ashCost) (WPd_mono d) hP 40 [] ?_; (conv => whnf); (repeat' (first | (refine ⟨fun _ => ?_, fun _ => ?_⟩ <;> first | (exfalso; omega) | (conv => whnf)) | (refine ⟨by omega, ?_⟩; conv => whnf) | (intro _; conv => whnf))))
  all_goals first | (rwa [if_pos (by omega)] at h) | (rwa [if_neg (by omega), if_pos (by omega)] at h) | (rwa [if_neg (by omega), if_neg (by omega)] at h)
end
section
/-! A CORE AS A VALUE: rows 0 thickness, 1 kind, 2 missing, 3 place, 4 age, 5 uncertainty, 6 settings, each 0 outside its range; 7: how many layers, how many ashes -/
abbrev KV : Type := Nat → Int → Int
def mask (n : Int) (f : Int → Int) : Int → Int := fun j => if 0 ≤ j ∧ j < n then f j else 0
def cnt7 (n a : Int) : Int → Int := fun j => if j = 0 then n else if j = 1 then a else 0
def mkV (n a : Int) (f0 f1 f2 f3 f4 f5 f6 : Int → Int) : KV := fun k => match k with
  | 0 => mask n f0
  | 1 => mask n f1
  | 2 => mask n f2
  | 3 => mask a f3
  | 4 => mask a f4
  | 5 => mask a f5
  | 6 => mask 4 f6
  | 7 => cnt7 n a
  | _ => fun _ => 0
def vwC (σ : Sto) (c : Int) : KV := mkV (σ 16 c 7) (σ 16 c 8) (σ 17 c) (σ 18 c) (σ 19 c) (σ 20 c) (σ 21 c) (σ 22 c) (σ 23 c)
def insM (g : Int → Int) (i x : Int) : Int → Int := fun j => if j < i then g j else if j = i then x else g (j - 1)
def delM (g : Int → Int) (i : Int) : Int → Int := fun j => if j < i then g j else g (j + 1)
def upP (g : Int → Int) (i : Int) : Int → Int := fun j => if i < g j then g j + 1 else g j
def dnP (g : Int → Int) (i : Int) : Int → Int := fun j => if i < g j then g j - 1 else g j
def setM (g : Int → Int) (i x : Int) : Int → Int := fun j => if j = i then x else g j
def insK (K : KV) (i t k m : Int) : KV := fun q => match q with
  | 0 => insM (K 0) i t
  | 1 => insM (K 1) i k
  | 2 => insM (K 2) i m
  | 3 => upP (K 3) i
  | 7 => cnt7 (K 7 0 + 1) (K 7 1)
  | q => K q
def delAK (K : KV) (x : Int) : KV := fun q => match q with
  | 3 => delM (K 3) x
  | 4 => delM (K 4) x
  | 5 => delM (K 5) x
  | 7 => cnt7 (K 7 0) (K 7 1 - 1)
  | q => K q
def delLK (K : KV) (i : Int) : KV := fun q => match q with
  | 0 => delM (K 0) i
  | 1 => delM (K 1) i
  | 2 => delM (K 2) i
  | 3 => dnP (K 3) i
  | 7 => cnt7 (K 7 0 - 1) (K 7 1)
  | q => K q
def insAK (K : KV) (x p a u : Int) : KV := fun q => match q with
  | 3 => insM (K 3) x p
  | 4 => insM (K 4) x a
  | 5 => insM (K 5) x u
  | 7 => cnt7 (K 7 0) (K 7 1 + 1)
  | q => K q
/-- the ash at a place, or -1 -/
def axK (K : KV) (p : Int) : Int := ashIx (K 3) p (K 7 1).toNat 0
def remK (K : KV) (i : Int) : KV := if axK K (i + 1) ≠ -1 ∧ (i = 0 ∨ axK K i ≠ -1) then delLK (delAK K (axK K (i + 1))) i else delLK K i
theorem mask_in {n : Int} {f : Int → Int} {j : Int} (h0 : 0 ≤ j) (h1 : j < n) : mask n f j = f j := if_pos ⟨h0, h1⟩
theorem mask_cg {n : Int} {f g : Int → Int} (h : ∀ j, 0 ≤ j → j < n → f j = g j) : mask n f = mask n g := by
  funext j
  unfold mask
  split
  · rename_i q
    exact h j q.1 q.2
  · rfl
theorem mask_ins {n i x : Int} {f : Int → Int} (h0 : 0 ≤ i) (h1 : i ≤ n) : mask (n + 1) (insF f i n x) = insM (mask n f) i x := by
  funext j
  simp only [mask, insF, insM]
  ((repeat' split) <;> first | rfl | (exfalso; omega) | (congr 1; omega) | omega)
theorem mask_del {n i : Int} {f : Int → Int} (h0 : 0 ≤ i) (h1 : i < n) : mask (n - 1) (delF f i n) = delM (mask n f) i := by
  funext j
  simp only [mask, delF, delM]
  ((repeat' split) <;> first | rfl | (exfalso; omega) | (congr 1; omega) | omega)
theorem mask_up {n i : Int} {f : Int → Int} (h : 0 ≤ i) : mask n (fun j => if 0 ≤ j ∧ j < n ∧ i < f j then f j + 1 else f j) = upP (mask n f) i := by
  funext j
  simp only [mask, upP]
  ((repeat' split) <;> first | rfl | (exfalso; omega) | (congr 1; omega) | omega)
theorem mask_dn {n i : Int} {f : Int → Int} (h : 0 ≤ i) : mask n (fun j => if 0 ≤ j ∧ j < n ∧ i < f j then f j - 1 else f j) = dnP (mask n f) i := by
  funext j
  simp only [mask, dnP]
  ((repeat' split) <;> first | rfl | (exfalso; omega) | (congr 1; omega) | omega)
theorem mask_0 {f : Int → Int} : mask 0 f = fun _ => 0 := by
  funext j
  unfold mask
  rw [if_neg (by omega)]
theorem vw_n (σ : Sto) (c : Int) : vwC σ c 7 0 = σ 16 c 7 := rfl
theorem vw_a (σ : Sto) (c : Int) : vwC σ c 7 1 = σ 16 c 8 := rfl
theorem cnt_0 {n a : Int} : cnt7 n a 0 = n := rfl
theorem cnt_1 {n a : Int} : cnt7 n a 1 = a := rfl
theorem ashIx_cg {f g : Int → Int} {w : Int} : ∀ (n : Nat) (i : Int), (∀ j, i ≤ j → j < i + n → f j = g j) → ashIx f w n i = ashIx g w n i
  | 0, _, _ => rfl
  | n + 1, i, h => by
    unfold ashIx
    rw [h i (by omega) (by omega), ashIx_cg n (i + 1) (fun j h1 h2 => h j (by omega) (by omega))]
theorem ax_vw {σ : Sto} {c p : Int} : ashIx (σ 20 c) p (σ 16 c 8).toNat 0 = axK (vwC σ c) p := by
  unfold axK
  rw [vw_a]
  exact ashIx_cg _ _ fun j h1 h2 => (mask_in h1 (by omega)).symm
def offC (c : Int) (σ σ' : Sto) : Prop := ∀ (k : Nat) (i : Int), ¬ (16 ≤ k ∧ k ≤ 23 ∧ i = c) → σ' k i = σ k i
theorem offC.rf {c : Int} {σ : Sto} : offC c σ σ := fun _ _ _ => rfl
theorem offC.tr {c : Int} {σ σ' σ'' : Sto} (h1 : offC c σ σ') (h2 : offC c σ' σ'') : offC c σ σ'' := fun k i h => (h2 k i h).trans (h1 k i h)
theorem offC.set {c : Int} {σ σ' : Sto} (h1 : offC c σ σ') {k : Nat} {g : Int → Int} (hk : 16 ≤ k ∧ k ≤ 23) : offC c σ (setR σ' k c g) := fun k' i h => by
  rw [setR_ne (fun e => h ⟨by omega, by omega, e.2⟩)]
  exact h1 k' i h
theorem offC.up {c : Int} {σ σ' : Sto} (h1 : offC c σ σ') {k : Nat} {j v : Int} (hk : 16 ≤ k ∧ k ≤ 23) : offC c σ (upS σ' k c j v) := by
  rw [upS_setR]
  exact h1.set hk
theorem vwC_cg {σ σ' : Sto} {c : Int} (h : ∀ k, 16 ≤ k → k ≤ 23 → σ' k c = σ k c) : vwC σ' c = vwC σ c := by
  unfold vwC
  rw [h 16 (by omega) (by omega), h 17 (by omega) (by omega), h 18 (by omega) (by omega), h 19 (by omega) (by omega), h 20 (by omega) (by omega), h 21 (by omega) (by omega), h 22 (by omega) (by omega), h 23 (by omega) (by omega)]
theorem vwC_off {σ σ' : Sto} {c c' : Int} (h : offC c σ σ') (hc : c' ≠ c) : vwC σ' c' = vwC σ c' := vwC_cg fun k _ _ => h k c' fun e => hc e.2.2
theorem up_hit {σ : Sto} {k : Nat} {i j v : Int} : upS σ k i j v k i j = v := if_pos ⟨rfl, rfl, rfl⟩
theorem up_k {σ : Sto} {k k' : Nat} {i i' j v : Int} (h : k' ≠ k) : upS σ k i j v k' i' = σ k' i' := by
  funext j'
  exact if_neg fun e => h e.1
theorem up_j {σ : Sto} {k : Nat} {i j j' v : Int} (h : j' ≠ j) : upS σ k i j v k i j' = σ k i j' := if_neg fun e => h e.2.2
theorem up_i {σ : Sto} {k k' : Nat} {i i' j v : Int} (h : i' ≠ i) : upS σ k i j v k' i' = σ k' i' := by
  funext j'
  exact if_neg fun e => h e.2.1
theorem t_X0_layerProperties {d : Nat} (hd : 1 ≤ d) {σ : Sto} {Q : Post} {c w : Int} (hw : 0 ≤ w ∧ w ≤ 2) (h0 : w = 0 → Q (some (.inr (17, c))) σ) (h1 : w = 1 → Q (some (.inr (18, c))) σ) (h2 : w = 2 → Q (some (.inr (19, c))) σ) : WPd d m_X0_layerProperties [.inr (16, c), .inl w] σ Q := by
  obtain ⟨d, rfl⟩ : ∃ k, d = k + 1 := ⟨d - 1, by omega⟩
  intro P hP
  (refine go (t := tb_X0_layerProperties) (WPd_mono d) hP 30 [] ?_; (conv => whnf); (repeat' (first | (refine ⟨fun _ => ?_, fun _ => ?_⟩ <;> first | (exfalso; omega) | (conv => whnf)) | (refine ⟨by omega, ?_⟩; conv => whnf) | (intro _; conv => whnf))))
  all_goals first | exact h0 (by omega) | exact h1 (by omega) | exact h2 (by omega)
theorem t_X0_ashProperties {d : Nat} (hd : 1 ≤ d) {σ : Sto} {Q : Post} {c w : Int} (hw : 0 ≤ w ∧ w ≤ 2) (h0 : w = 0 → Q (some (.inr (20, c))) σ) (h1 : w = 1 → Q (some (.inr (21, c))) σ) (h2 : w = 2 → Q (some (.inr (22, c))) σ) : WPd d m_X0_ashProperties [.inr (16, c), .inl w] σ Q := by
  obtain ⟨d, rfl⟩ : ∃ k, d = k + 1 := ⟨d - 1, by omega⟩
  intro P hP
  (refine go (t := tb_X0_ashProperties) (WPd_mono d) hP 30 [] ?_; (conv => whnf); (repeat' (first | (refine ⟨fun _ => ?_, fun _ => ?_⟩ <;> first | (exfalso; omega) | (conv => whnf)) | (refine ⟨by omega, ?_⟩; conv => whnf) | (intro _; conv => whnf))))
  all_goals first | exact h0 (by omega) | exact h1 (by omega) | exact h2 (by omega)
theorem insK_mk {n a i t k m : Int} {f0 f1 f2 f3 f4 f5 f6 : Int → Int} (h0 : 0 ≤ i) (h1 : i ≤ n) : mkV (n + 1) a (insF f0 i n t) (insF f1 i n k) (insF f2 i n m) (fun j => if 0 ≤ j ∧ j < a ∧ i < f3 j then f3 j + 1 else f3 j) f4 f5 f6 = insK (mkV n a f0 f1 f2 f3 f4 f5 f6) i t k m := by
  funext q
  rcases q with _ | _ | _ | _ | _ | _ | _ | _ | q <;> first | exact mask_ins h0 h1 | exact mask_up h0 | rfl
theorem delLK_mk {n a i : Int} {f0 f1 f2 f3 f4 f5 f6 : Int → Int} (h0 : 0 ≤ i) (h1 : i < n) : mkV (n - 1) a (delF f0 i n) (delF f1 i n) (delF f2 i n) (fun j => if 0 ≤ j ∧ j < a ∧ i < f3 j then f3 j - 1 else f3 j) f4 f5 f6 = delLK (mkV n a f0 f1 f2 f3 f4 f5 f6) i := by
  funext q
  rcases q with _ | _ | _ | _ | _ | _ | _ | _ | q <;> first | exact mask_del h0 h1 | exact mask_dn h0 | rfl
theorem delAK_mk {n a x : Int} {f0 f1 f2 f3 f4 f5 f6 : Int → Int} (h0 : 0 ≤ x) (h1 : x < a) : mkV n (a - 1) f0 f1 f2 (delF f3 x a) (delF f4 x a) (delF f5 x a) f6 = delAK (mkV n a f0 f1 f2 f3 f4 f5 f6) x := by
  funext q
  rcases q with _ | _ | _ | _ | _ | _ | _ | _ | q <;> first | exact mask_del h0 h1 | rfl
theorem insAK_mk {n a x p e u : Int} {f0 f1 f2 f3 f4 f5 f6 : Int → Int} (h0 : 0 ≤ x) (h1 : x ≤ a) : mkV n (a + 1) f0 f1 f2 (insF f3 x a p) (insF f4 x a e) (insF f5 x a u) f6 = insAK (mkV n a f0 f1 f2 f3 f4 f5 f6) x p e u := by
  funext q
  rcases q with _ | _ | _ | _ | _ | _ | _ | _ | q <;> first | exact mask_ins h0 h1 | rfl
theorem t_X0_insertLayer {d : Nat} (hd : 2 ≤ d) {σ : Sto} {Q : Post} {c i t k m : Int} (hn : 0 ≤ σ 16 c 7 ∧ σ 16 c 7 < 50) (ha : 0 ≤ σ 16 c 8 ∧ σ 16 c 8 ≤ 6) (hi : 0 ≤ i ∧ i ≤ σ 16 c 7) (ht : inR t) (hk : inR k) (hm : inR m) (hp : ∀ j, 0 ≤ j → j < σ 16 c 8 → σ 20 c j ≤ 1000) (h : ∀ σ', vwC σ' c = insK (vwC σ c) i t k m → offC c σ σ' → Q none σ') : WPd d m_X0_insertLayer [.inr (16, c), .inl i, .inl t, .inl k, .inl m] σ Q := by
  obtain ⟨d, rfl⟩ : ∃ k, d = k + 1 := ⟨d - 1, by omega⟩
  intro P hP
  have L : ∀ (n : Nat) (j : Int) (τ : Sto), n = (σ 16 c 8 - j).toNat → 0 ≤ j → j ≤ σ 16 c 8 → τ 16 c 8 = σ 16 c 8 → τ 16 c 7 = σ 16 c 7 + 1 → τ 17 c = insF (σ 17 c) i (σ 16 c 7) t → τ 18 c = insF (σ 18 c) i (σ 16 c 7) k → τ 19 c = insF (σ 19 c) i (σ 16 c 7) m → τ 21 c = σ 21 c → τ 22 c = σ 22 c → τ 23 c = σ 23 c → offC c σ τ → (∀ x, τ 20 c x = if 0 ≤ x ∧ x < j ∧ i < σ 20 c x then σ 20 c x + 1 else σ 20 c x) → P 53 [.inr (16, c), .inl i, .inl t, .inl k, .inl m, .inl j] [] τ := by
    intro n
    induction n with
    | zero =>
      intro j τ hn0 h0 h1 e1 e2 e3 e4 e5 e6 e7 e8 e9 e10
      (refine go (t := tb_X0_insertLayer) (WPd_mono d) hP 40 [53] ?_; (conv => whnf); (repeat' (first | (refine ⟨fun _ => ?_, fun _ => ?_⟩ <;> first | (exfalso; omega) | (conv => whnf)) | (refine ⟨by omega, ?_⟩; conv => whnf) | (intro _; conv => whnf))))
      refine h τ ?_ e9
      have ej : j = σ 16 c 8 := by omega
      unfold vwC
      rw [e1, e2, e3, e4, e5, e6, e7, e8, show τ 20 c = _ from funext e10, ej]
      exact insK_mk hi.1 hi.2
    | succ n ih =>
      intro j τ hn0 h0 h1 e1 e2 e3 e4 e5 e6 e7 e8 e9 e10
      have ex := e10 j
      rw [if_neg (by omega)] at ex
      have hpj := hp j h0 (by omega)
      (refine go (t := tb_X0_insertLayer) (WPd_mono d) hP 40 [53] ?_; (conv => whnf); (repeat' (first | (refine ⟨fun _ => ?_, fun _ => ?_⟩ <;> first | (exfalso; omega) | (conv => whnf)) | (refine ⟨by omega, ?_⟩; conv => whnf) | (intro _; conv => whnf))))
      · exact ih (j + 1) τ (by omega) (by omega) (by omega) e1 e2 e3 e4 e5 e6 e7 e8 e9 (fun x => by
          rw [e10]
          by_cases q : x = j
          · subst q
            rw [if_neg (by omega), if_neg (by omega)]
          · ((repeat' split) <;> first | rfl | (exfalso; omega) | (congr 1; omega) | omega))
      · refine ih (j + 1) _ (by omega) (by omega) (by omega) (by rw [up_k (by decide)]; exact e1) (by rw [up_k (by decide)]; exact e2) (by rw [up_k (by decide)]; exact e3) (by rw [up_k (by decide)]; exact e4) (by rw [up_k (by decide)]; exact e5) (by rw [up_k (by decide)]; exact e6) (by rw [up_k (by decide)]; exact e7) (by rw [up_k (by decide)]; exact e8) (e9.up (by omega)) (fun x => ?_)
        by_cases q : x = j
        · subst q
          rw [up_hit, ex, if_pos (by omega)]
        · rw [up_j q, e10]
          ((repeat' split) <;> first | rfl | (exfalso; omega) | (congr 1; omega) | omega)
  (refine go (t := tb_X0_insertLayer) (WPd_mono d) hP 40 [53] ?_; (conv => whnf); (repeat' (first | (refine ⟨fun _ => ?_, fun _ => ?_⟩ <;> first | (exfalso; omega) | (conv => whnf)) | (refine ⟨by omega, ?_⟩; conv => whnf) | (intro _; conv => whnf))))
  refine t_X0_insertAt (len := 50) (by omega) rfl ht (by omega) (by omega) (by omega) (by omega) ?_
  ((conv => whnf); (repeat' (first | (refine ⟨fun _ => ?_, fun _ => ?_⟩ <;> first | (exfalso; omega) | (conv => whnf)) | (refine ⟨by omega, ?_⟩; conv => whnf) | (intro _; conv => whnf))))
  (try simp only [setR_same, setR_nk, upS_setR, cpS_setR, setR_setR, ne_eq, Nat.reduceEqDiff, not_false_eq_true, Int.reduceEq, ↓reduceIte])
  refine t_X0_insertAt (len := 50) (by omega) rfl hk (by omega) (by omega) (by omega) (by omega) ?_
  ((conv => whnf); (repeat' (first | (refine ⟨fun _ => ?_, fun _ => ?_⟩ <;> first | (exfalso; omega) | (conv => whnf)) | (refine ⟨by omega, ?_⟩; conv => whnf) | (intro _; conv => whnf))))
  (try simp only [setR_same, setR_nk, upS_setR, cpS_setR, setR_setR, ne_eq, Nat.reduceEqDiff, not_false_eq_true, Int.reduceEq, ↓reduceIte])
  refine t_X0_insertAt (len := 50) (by omega) rfl hm (by omega) (by omega) (by omega) (by omega) ?_
  ((conv => whnf); (repeat' (first | (refine ⟨fun _ => ?_, fun _ => ?_⟩ <;> first | (exfalso; omega) | (conv => whnf)) | (refine ⟨by omega, ?_⟩; conv => whnf) | (intro _; conv => whnf))))
  (try simp only [setR_same, setR_nk, upS_setR, cpS_setR, setR_setR, ne_eq, Nat.reduceEqDiff, not_false_eq_true, Int.reduceEq, ↓reduceIte])
  refine ⟨by omega, ?_⟩
  ((conv => whnf); (repeat' (first | (refine ⟨fun _ => ?_, fun _ => ?_⟩ <;> first | (exfalso; omega) | (conv => whnf)) | (refine ⟨by omega, ?_⟩; conv => whnf) | (intro _; conv => whnf))))
  (try simp only [setR_same, setR_nk, upS_setR, cpS_setR, setR_setR, ne_eq, Nat.reduceEqDiff, not_false_eq_true, Int.reduceEq, ↓reduceIte])
  refine L _ 0 _ rfl (by omega) (by omega) ?_ ?_ ?_ ?_ ?_ ?_ ?_ ?_ ?_ ?_
  all_goals first | ((try simp only [setR_same, setR_nk, upS_setR, cpS_setR, setR_setR, ne_eq, Nat.reduceEqDiff, not_false_eq_true, Int.reduceEq, ↓reduceIte]); done) | skip
  · exact (((offC.rf.set (by omega)).set (by omega)).set (by omega)).set (by omega)
  · intro x
    (try simp only [setR_same, setR_nk, upS_setR, cpS_setR, setR_setR, ne_eq, Nat.reduceEqDiff, not_false_eq_true, Int.reduceEq, ↓reduceIte])
    rw [if_neg (by omega)]
theorem t_X0_deleteAsh {d : Nat} (hd : 2 ≤ d) {σ : Sto} {Q : Post} {c x : Int} (ha : 0 ≤ σ 16 c 8 ∧ σ 16 c 8 ≤ 6) (hx : 0 ≤ x ∧ x < σ 16 c 8) (h : ∀ σ', vwC σ' c = delAK (vwC σ c) x → offC c σ σ' → (∀ k, k ≤ 19 → σ' k c = if k = 16 then (fun j' => if j' = 8 then σ 16 c 8 - 1 else σ 16 c j') else σ k c) → σ' 20 c = delF (σ 20 c) x (σ 16 c 8) → Q none σ') : WPd d m_X0_deleteAsh [.inr (16, c), .inl x] σ Q := by
  obtain ⟨d, rfl⟩ : ∃ k, d = k + 1 := ⟨d - 1, by omega⟩
  intro P hP
  (refine go (t := tb_X0_deleteAsh) (WPd_mono d) hP 40 [] ?_; (conv => whnf); (repeat' (first | (refine ⟨fun _ => ?_, fun _ => ?_⟩ <;> first | (exfalso; omega) | (conv => whnf)) | (refine ⟨by omega, ?_⟩; conv => whnf) | (intro _; conv => whnf))))
  refine t_X0_deleteAt (len := 6) (by omega) rfl (by omega) (by omega) (by omega) (by omega) ?_
  ((conv => whnf); (repeat' (first | (refine ⟨fun _ => ?_, fun _ => ?_⟩ <;> first | (exfalso; omega) | (conv => whnf)) | (refine ⟨by omega, ?_⟩; conv => whnf) | (intro _; conv => whnf))))
  (try simp only [setR_same, setR_nk, upS_setR, cpS_setR, setR_setR, ne_eq, Nat.reduceEqDiff, not_false_eq_true, Int.reduceEq, ↓reduceIte])
  refine t_X0_deleteAt (len := 6) (by omega) rfl (by omega) (by omega) (by omega) (by omega) ?_
  ((conv => whnf); (repeat' (first | (refine ⟨fun _ => ?_, fun _ => ?_⟩ <;> first | (exfalso; omega) | (conv => whnf)) | (refine ⟨by omega, ?_⟩; conv => whnf) | (intro _; conv => whnf))))
  (try simp only [setR_same, setR_nk, upS_setR, cpS_setR, setR_setR, ne_eq, Nat.reduceEqDiff, not_false_eq_true, Int.reduceEq, ↓reduceIte])
  refine t_X0_deleteAt (len := 6) (by omega) rfl (by omega) (by omega) (by omega) (by omega) ?_
  ((conv => whnf); (repeat' (first | (refine ⟨fun _ => ?_, fun _ => ?_⟩ <;> first | (exfalso; omega) | (conv => whnf)) | (refine ⟨by omega, ?_⟩; conv => whnf) | (intro _; conv => whnf))))
  (try simp only [setR_same, setR_nk, upS_setR, cpS_setR, setR_setR, ne_eq, Nat.reduceEqDiff, not_false_eq_true, Int.reduceEq, ↓reduceIte])
  refine ⟨by omega, ?_⟩
  ((conv => whnf); (repeat' (first | (refine ⟨fun _ => ?_, fun _ => ?_⟩ <;> first | (exfalso; omega) | (conv => whnf)) | (refine ⟨by omega, ?_⟩; conv => whnf) | (intro _; conv => whnf))))
  (try simp only [setR_same, setR_nk, upS_setR, cpS_setR, setR_setR, ne_eq, Nat.reduceEqDiff, not_false_eq_true, Int.reduceEq, ↓reduceIte])
  refine h _ ?_ ((((offC.rf.set (by omega)).set (by omega)).set (by omega)).set (by omega)) (fun k hk => ?_) ?_
  · unfold vwC
    (try simp only [setR_same, setR_nk, upS_setR, cpS_setR, setR_setR, ne_eq, Nat.reduceEqDiff, not_false_eq_true, Int.reduceEq, ↓reduceIte])
    exact delAK_mk hx.1 hx.2
  · by_cases q : k = 16
    · subst q
      (try simp only [setR_same, setR_nk, upS_setR, cpS_setR, setR_setR, ne_eq, Nat.reduceEqDiff, not_false_eq_true, Int.reduceEq, ↓reduceIte])
    · rw [setR_nk q, setR_nk (by omega), setR_nk (by omega), setR_nk (by omega), if_neg q]
  · (try simp only [setR_same, setR_nk, upS_setR, cpS_setR, setR_setR, ne_eq, Nat.reduceEqDiff, not_false_eq_true, Int.reduceEq, ↓reduceIte])
def sumF (f : Int → Int) : Nat → Int → Int
  | 0, _ => 0
  | n + 1, i => f i + sumF f n (i + 1)
def cntF (f : Int → Int) (w : Int) : Nat → Int → Int
  | 0, _ => 0
  | n + 1, i => (if f i = w then 1 else 0) + cntF f w n (i + 1)
theorem t_X0_thicknessBetween {d : Nat} (hd : 1 ≤ d) {σ : Sto} {Q : Post} {c u v : Int} (hu : 0 ≤ u ∧ u ≤ v ∧ v ≤ 50) (h : Q (some (.inl (sumF (σ 17 c) (v - u).toNat u))) σ) : WPd d m_X0_thicknessBetween [.inr (16, c), .inl u, .inl v] σ Q := by
  obtain ⟨d, rfl⟩ : ∃ k, d = k + 1 := ⟨d - 1, by omega⟩
  intro P hP
  have L : ∀ (n : Nat) (s i : Int), n = (v - i).toNat → 0 ≤ i → i ≤ v → Q (some (.inl (s + sumF (σ 17 c) n i))) σ → P 5 [.inr (16, c), .inl u, .inl v, .inl s, .inl i] [] σ := by
    intro n
    induction n with
    | zero =>
      intro s i hn0 h0 h1 hq
      (refine go (t := tb_X0_thicknessBetween) (WPd_mono d) hP 30 [5] ?_; (conv => whnf); (repeat' (first | (refine ⟨fun _ => ?_, fun _ => ?_⟩ <;> first | (exfalso; omega) | (conv => whnf)) | (refine ⟨by omega, ?_⟩; conv => whnf) | (intro _; conv => whnf))))
      rwa [sumF, Int.add_zero] at hq
    | succ n ih =>
      intro s i hn0 h0 h1 hq
      (refine go (t := tb_X0_thicknessBetween) (WPd_mono d) hP 30 [5] ?_; (conv => whnf); (repeat' (first | (refine ⟨fun _ => ?_, fun _ => ?_⟩ <;> first | (exfalso; omega) | (conv => whnf)) | (refine ⟨by omega, ?_⟩; conv => whnf) | (intro _; conv => whnf))))
      exact ih _ (i + 1) (by omega) (by omega) (by omega) (by rwa [sumF, ← Int.add_assoc] at hq)
  (refine go (t := tb_X0_thicknessBetween) (WPd_mono d) hP 30 [5] ?_; (conv => whnf); (repeat' (first | (refine ⟨fun _ => ?_, fun _ => ?_⟩ <;> first | (exfalso; omega) | (conv => whnf)) | (refine ⟨by omega, ?_⟩; conv => whnf) | (intro _; conv => whnf))))
  exact L _ 0 u rfl (by omega) (by omega) (by rwa [Int.zero_add])
theorem t_X0_layersOfKind {d : Nat} (hd : 1 ≤ d) {σ : Sto} {Q : Post} {c w : Int} (hw : inR w) (hn : 0 ≤ σ 16 c 7 ∧ σ 16 c 7 ≤ 50) (h : Q (some (.inl (cntF (σ 18 c) w (σ 16 c 7).toNat 0))) σ) : WPd d m_X0_layersOfKind [.inr (16, c), .inl w] σ Q := by
  obtain ⟨d, rfl⟩ : ∃ k, d = k + 1 := ⟨d - 1, by omega⟩
  intro P hP
  have L : ∀ (n : Nat) (s i : Int), n = (σ 16 c 7 - i).toNat → 0 ≤ i → i ≤ σ 16 c 7 → Q (some (.inl (s + cntF (σ 18 c) w n i))) σ → P 4 [.inr (16, c), .inl w, .inl s, .inl i] [] σ := by
    intro n
    induction n with
    | zero =>
      intro s i hn0 h0 h1 hq
      (refine go (t := tb_X0_layersOfKind) (WPd_mono d) hP 30 [4] ?_; (conv => whnf); (repeat' (first | (refine ⟨fun _ => ?_, fun _ => ?_⟩ <;> first | (exfalso; omega) | (conv => whnf)) | (refine ⟨by omega, ?_⟩; conv => whnf) | (intro _; conv => whnf))))
      rwa [cntF, Int.add_zero] at hq
    | succ n ih =>
      intro s i hn0 h0 h1 hq
      (refine go (t := tb_X0_layersOfKind) (WPd_mono d) hP 30 [4] ?_; (conv => whnf); (repeat' (first | (refine ⟨fun _ => ?_, fun _ => ?_⟩ <;> first | (exfalso; omega) | (conv => whnf)) | (refine ⟨by omega, ?_⟩; conv => whnf) | (intro _; conv => whnf))))
      · exact ih _ (i + 1) (by omega) (by omega) (by omega) (by rwa [cntF, if_neg (by assumption), Int.zero_add] at hq)
      · exact ih _ (i + 1) (by omega) (by omega) (by omega) (by rwa [cntF, if_pos (by assumption), ← Int.add_assoc] at hq)
  (refine go (t := tb_X0_layersOfKind) (WPd_mono d) hP 30 [4] ?_; (conv => whnf); (repeat' (first | (refine ⟨fun _ => ?_, fun _ => ?_⟩ <;> first | (exfalso; omega) | (conv => whnf)) | (refine ⟨by omega, ?_⟩; conv => whnf) | (intro _; conv => whnf))))
  exact L (σ 16 c 7).toNat 0 0 (by omega) (by omega) (by omega) (by rwa [Int.zero_add])
def takeK (A B : KV) : KV := fun q => match q with
  | 6 => B 6
  | q => A q
theorem mask_cp {n : Int} {f g : Int → Int} : mask n (fun j => if 0 ≤ j ∧ j < 0 + n then f (0 + (j - 0)) else g j) = mask n f := mask_cg fun j h0 h1 => by
  rw [if_pos (by omega)]
  congr 1
  omega
theorem t_X0_takeLayersAndAshes {d : Nat} (hd : 1 ≤ d) {σ : Sto} {Q : Post} {c c2 : Int} (hc : c2 ≠ c) (hn : 0 ≤ σ 16 c2 7 ∧ σ 16 c2 7 ≤ 50) (ha : 0 ≤ σ 16 c2 8 ∧ σ 16 c2 8 ≤ 6) (h : ∀ σ', vwC σ' c = takeK (vwC σ c2) (vwC σ c) → offC c σ σ' → Q none σ') : WPd d m_X0_takeLayersAndAshes [.inr (16, c), .inr (16, c2)] σ Q := by
  obtain ⟨d, rfl⟩ : ∃ k, d = k + 1 := ⟨d - 1, by omega⟩
  intro P hP
  (refine go (t := tb_X0_takeLayersAndAshes) (WPd_mono d) hP 80 [] ?_; (conv => whnf); (repeat' (first | (refine ⟨fun _ => ?_, fun _ => ?_⟩ <;> first | (exfalso; omega) | (conv => whnf)) | (refine ⟨by omega, ?_⟩; conv => whnf) | (intro _; conv => whnf))))
  (try simp only [setR_ni hc, setR_same, setR_nk, upS_setR, cpS_setR, setR_setR, ne_eq, Nat.reduceEqDiff, not_false_eq_true, Int.reduceEq, ↓reduceIte])
  refine ⟨by omega, ?_⟩
  ((conv => whnf); (repeat' (first | (refine ⟨fun _ => ?_, fun _ => ?_⟩ <;> first | (exfalso; omega) | (conv => whnf)) | (refine ⟨by omega, ?_⟩; conv => whnf) | (intro _; conv => whnf))))
  (try simp only [setR_ni hc, setR_same, setR_nk, upS_setR, cpS_setR, setR_setR, ne_eq, Nat.reduceEqDiff, not_false_eq_true, Int.reduceEq, ↓reduceIte])
  refine ⟨by omega, ?_⟩
  ((conv => whnf); (repeat' (first | (refine ⟨fun _ => ?_, fun _ => ?_⟩ <;> first | (exfalso; omega) | (conv => whnf)) | (refine ⟨by omega, ?_⟩; conv => whnf) | (intro _; conv => whnf))))
  (try simp only [setR_ni hc, setR_same, setR_nk, upS_setR, cpS_setR, setR_setR, ne_eq, Nat.reduceEqDiff, not_false_eq_true, Int.reduceEq, ↓reduceIte])
  refine ⟨by omega, ?_⟩
  ((conv => whnf); (repeat' (first | (refine ⟨fun _ => ?_, fun _ => ?_⟩ <;> first | (exfalso; omega) | (conv => whnf)) | (refine ⟨by omega, ?_⟩; conv => whnf) | (intro _; conv => whnf))))
  (try simp only [setR_ni hc, setR_same, setR_nk, upS_setR, cpS_setR, setR_setR, ne_eq, Nat.reduceEqDiff, not_false_eq_true, Int.reduceEq, ↓reduceIte])
  refine ⟨by omega, ?_⟩
  ((conv => whnf); (repeat' (first | (refine ⟨fun _ => ?_, fun _ => ?_⟩ <;> first | (exfalso; omega) | (conv => whnf)) | (refine ⟨by omega, ?_⟩; conv => whnf) | (intro _; conv => whnf))))
  (try simp only [setR_ni hc, setR_same, setR_nk, upS_setR, cpS_setR, setR_setR, ne_eq, Nat.reduceEqDiff, not_false_eq_true, Int.reduceEq, ↓reduceIte])
  refine ⟨by omega, ?_⟩
  ((conv => whnf); (repeat' (first | (refine ⟨fun _ => ?_, fun _ => ?_⟩ <;> first | (exfalso; omega) | (conv => whnf)) | (refine ⟨by omega, ?_⟩; conv => whnf) | (intro _; conv => whnf))))
  (try simp only [setR_ni hc, setR_same, setR_nk, upS_setR, cpS_setR, setR_setR, ne_eq, Nat.reduceEqDiff, not_false_eq_true, Int.reduceEq, ↓reduceIte])
  refine ⟨by omega, ?_⟩
  ((conv => whnf); (repeat' (first | (refine ⟨fun _ => ?_, fun _ => ?_⟩ <;> first | (exfalso; omega) | (conv => whnf)) | (refine ⟨by omega, ?_⟩; conv => whnf) | (intro _; conv => whnf))))
  (try simp only [setR_ni hc, setR_same, setR_nk, upS_setR, cpS_setR, setR_setR, ne_eq, Nat.reduceEqDiff, not_false_eq_true, Int.reduceEq, ↓reduceIte])
  refine h _ ?_ ((((((((offC.rf.set (by omega)).set (by omega)).set (by omega)).set (by omega)).set (by omega)).set (by omega)).set (by omega)).set (by omega))
  unfold vwC
  (try simp only [setR_ni hc, setR_same, setR_nk, upS_setR, cpS_setR, setR_setR, ne_eq, Nat.reduceEqDiff, not_false_eq_true, Int.reduceEq, ↓reduceIte])
  funext q
  rcases q with _ | _ | _ | _ | _ | _ | _ | _ | q <;> first | exact mask_cp | rfl
end
section
theorem vwC_set6 {σ : Sto} {c : Int} {g : Int → Int} {A B : KV} (h : vwC σ c = takeK A B) (hg : mask 4 g = A 6) : vwC (setR σ 23 c g) c = A := by
  funext q
  have e := congrFun h q
  unfold vwC at e ⊢
  (try simp only [setR_same, setR_nk, upS_setR, cpS_setR, setR_setR, ne_eq, Nat.reduceEqDiff, not_false_eq_true, Int.reduceEq, ↓reduceIte])
  rcases q with _ | _ | _ | _ | _ | _ | _ | _ | q <;> first | exact e | exact hg
theorem t_X0_takeAll {d : Nat} (hd : 2 ≤ d) {σ : Sto} {Q : Post} {c c2 : Int} (hc : c2 ≠ c) (hn : 0 ≤ σ 16 c2 7 ∧ σ 16 c2 7 ≤ 50) (ha : 0 ≤ σ 16 c2 8 ∧ σ 16 c2 8 ≤ 6) (h : ∀ σ', vwC σ' c = vwC σ c2 → offC c σ σ' → Q none σ') : WPd d m_X0_takeAll [.inr (16, c), .inr (16, c2)] σ Q := by
  obtain ⟨d, rfl⟩ : ∃ k, d = k + 1 := ⟨d - 1, by omega⟩
  intro P hP
  (refine go (t := tb_X0_takeAll) (WPd_mono d) hP 80 [] ?_; (conv => whnf); (repeat' (first | (refine ⟨fun _ => ?_, fun _ => ?_⟩ <;> first | (exfalso; omega) | (conv => whnf)) | (refine ⟨by omega, ?_⟩; conv => whnf) | (intro _; conv => whnf))))
  refine t_X0_takeLayersAndAshes (by omega) hc hn ha (fun σ1 e1 o1 => ?_)
  ((conv => whnf); (repeat' (first | (refine ⟨fun _ => ?_, fun _ => ?_⟩ <;> first | (exfalso; omega) | (conv => whnf)) | (refine ⟨by omega, ?_⟩; conv => whnf) | (intro _; conv => whnf))))
  rw [cpS_setR]
  refine h _ (vwC_set6 e1 ?_) (o1.set (by omega))
  have e2 : σ1 23 c2 = σ 23 c2 := o1 23 c2 (fun e => hc e.2.2)
  rw [e2]
  show mask 4 _ = mask 4 (σ 23 c2)
  refine mask_cg fun j h0 h1 => ?_
  rw [if_pos (by omega)]
  congr 1
  omega
theorem t_X0_deleteLayer {d : Nat} (hd : 3 ≤ d) {σ : Sto} {Q : Post} {c i : Int} (hn : 0 ≤ σ 16 c 7 ∧ σ 16 c 7 ≤ 50) (ha : 0 ≤ σ 16 c 8 ∧ σ 16 c 8 ≤ 6) (hi : 0 ≤ i ∧ i < σ 16 c 7) (hp : ∀ j, 0 ≤ j → j < σ 16 c 8 → 0 ≤ σ 20 c j ∧ σ 20 c j ≤ 1000) (h : ∀ σ', vwC σ' c = remK (vwC σ c) i → offC c σ σ' → Q none σ') : WPd d m_X0_deleteLayer [.inr (16, c), .inl i] σ Q := by
  obtain ⟨d, rfl⟩ : ∃ k, d = k + 1 := ⟨d - 1, by omega⟩
  intro P hP
  have M : ∀ (db : Int) (τ0 : Sto), τ0 16 c 7 = σ 16 c 7 → 0 ≤ τ0 16 c 8 → τ0 16 c 8 ≤ 6 → (∀ j, 0 ≤ j → j < τ0 16 c 8 → 0 ≤ τ0 20 c j ∧ τ0 20 c j ≤ 1000) → offC c σ τ0 → (∀ σ', vwC σ' c = delLK (vwC τ0 c) i → offC c σ σ' → Q none σ') → P 31 [.inr (16, c), .inl i, .inl db] [] τ0 := by
    intro db τ0 q1 q2 q3 q4 q5 q6
    have L : ∀ (n : Nat) (j : Int) (ls4 : List AV) (τ : Sto), n = (τ0 16 c 8 - j).toNat → 0 ≤ j → j ≤ τ0 16 c 8 → τ 16 c 8 = τ0 16 c 8 → τ 16 c 7 = σ 16 c 7 - 1 → τ 17 c = delF (τ0 17 c) i (σ 16 c 7) → τ 18 c = delF (τ0 18 c) i (σ 16 c 7) → τ 19 c = delF (τ0 19 c) i (σ 16 c 7) → τ 21 c = τ0 21 c → τ 22 c = τ0 22 c → τ 23 c = τ0 23 c → offC c σ τ → (∀ x, τ 20 c x = if 0 ≤ x ∧ x < j ∧ i < τ0 20 c x then τ0 20 c x - 1 else τ0 20 c x) → P 79 [.inr (16, c), .inl i, .inl db, .inl j] [] τ := by
      intro n
      induction n with
      | zero =>
        intro j _ τ hn0 h0 h1 e1 e2 e3 e4 e5 e6 e7 e8 e9 e10
        (refine go (t := tb_X0_deleteLayer) (WPd_mono d) hP 40 [79] ?_; (conv => whnf); (repeat' (first | (refine ⟨fun _ => ?_, fun _ => ?_⟩ <;> first | (exfalso; omega) | (conv => whnf)) | (refine ⟨by omega, ?_⟩; conv => whnf) | (intro _; conv => whnf))))
        refine q6 τ ?_ e9
        have ej : j = τ0 16 c 8 := by omega
        unfold vwC
        rw [e1, e2, e3, e4, e5, e6, e7, e8, show τ 20 c = _ from funext e10, ej, q1]
        exact delLK_mk hi.1 hi.2
      | succ n ih =>
        intro j _ τ hn0 h0 h1 e1 e2 e3 e4 e5 e6 e7 e8 e9 e10
        have ex := e10 j
        rw [if_neg (by omega)] at ex
        have hpj := q4 j h0 (by omega)
        (refine go (t := tb_X0_deleteLayer) (WPd_mono d) hP 40 [79] ?_; (conv => whnf); (repeat' (first | (refine ⟨fun _ => ?_, fun _ => ?_⟩ <;> first | (exfalso; omega) | (conv => whnf)) | (refine ⟨by omega, ?_⟩; conv => whnf) | (intro _; conv => whnf))))
        · exact ih (j + 1) [] τ (by omega) (by omega) (by omega) e1 e2 e3 e4 e5 e6 e7 e8 e9 (fun x => by
            rw [e10]
            by_cases q : x = j
            · subst q
              rw [if_neg (by omega), if_neg (by omega)]
            · ((repeat' split) <;> first | rfl | (exfalso; omega) | (congr 1; omega) | omega))
        · refine ih (j + 1) [] _ (by omega) (by omega) (by omega) (by rw [up_k (by decide)]; exact e1) (by rw [up_k (by decide)]; exact e2) (by rw [up_k (by decide)]; exact e3) (by rw [up_k (by decide)]; exact e4) (by rw [up_k (by decide)]; exact e5) (by rw [up_k (by decide)]; exact e6) (by rw [up_k (by decide)]; exact e7) (by rw [up_k (by decide)]; exact e8) (e9.up (by omega)) (fun x => ?_)
          by_cases q : x = j
          · subst q
            rw [up_hit, ex, if_pos (by omega)]
          · rw [up_j q, e10]
            ((repeat' split) <;> first | rfl | (exfalso; omega) | (congr 1; omega) | omega)
    (refine go (t := tb_X0_deleteLayer) (WPd_mono d) hP 40 [31, 79] ?_; (conv => whnf); (repeat' (first | (refine ⟨fun _ => ?_, fun _ => ?_⟩ <;> first | (exfalso; omega) | (conv => whnf)) | (refine ⟨by omega, ?_⟩; conv => whnf) | (intro _; conv => whnf))))
    refine t_X0_deleteAt (len := 50) (by omega) rfl (by omega) (by omega) (by omega) (by omega) ?_
    ((conv => whnf); (repeat' (first | (refine ⟨fun _ => ?_, fun _ => ?_⟩ <;> first | (exfalso; omega) | (conv => whnf)) | (refine ⟨by omega, ?_⟩; conv => whnf) | (intro _; conv => whnf))))
    (try simp only [setR_same, setR_nk, upS_setR, cpS_setR, setR_setR, ne_eq, Nat.reduceEqDiff, not_false_eq_true, Int.reduceEq, ↓reduceIte])
    refine t_X0_deleteAt (len := 50) (by omega) rfl (by omega) (by omega) (by omega) (by omega) ?_
    ((conv => whnf); (repeat' (first | (refine ⟨fun _ => ?_, fun _ => ?_⟩ <;> first | (exfalso; omega) | (conv => whnf)) | (refine ⟨by omega, ?_⟩; conv => whnf) | (intro _; conv => whnf))))
    (try simp only [setR_same, setR_nk, upS_setR, cpS_setR, setR_setR, ne_eq, Nat.reduceEqDiff, not_false_eq_true, Int.reduceEq, ↓reduceIte])
    refine t_X0_deleteAt (len := 50) (by omega) rfl (by omega) (by omega) (by omega) (by omega) ?_
    ((conv => whnf); (repeat' (first | (refine ⟨fun _ => ?_, fun _ => ?_⟩ <;> first | (exfalso; omega) | (conv => whnf)) | (refine ⟨by omega, ?_⟩; conv => whnf) | (intro _; conv => whnf))))
    (try simp only [setR_same, setR_nk, upS_setR, cpS_setR, setR_setR, ne_eq, Nat.reduceEqDiff, not_false_eq_true, Int.reduceEq, ↓reduceIte])
    refine ⟨by omega, ?_⟩
    ((conv => whnf); (repeat' (first | (refine ⟨fun _ => ?_, fun _ => ?_⟩ <;> first | (exfalso; omega) | (conv => whnf)) | (refine ⟨by omega, ?_⟩; conv => whnf) | (intro _; conv => whnf))))
    (try simp only [setR_same, setR_nk, upS_setR, cpS_setR, setR_setR, ne_eq, Nat.reduceEqDiff, not_false_eq_true, Int.reduceEq, ↓reduceIte])
    rw [q1]
    refine L _ 0 [] _ rfl (by omega) (by omega) ?_ ?_ ?_ ?_ ?_ ?_ ?_ ?_ ?_ ?_
    all_goals first | ((try simp only [setR_same, setR_nk, upS_setR, cpS_setR, setR_setR, ne_eq, Nat.reduceEqDiff, not_false_eq_true, Int.reduceEq, ↓reduceIte]); done) | skip
    · exact (((q5.set (by omega)).set (by omega)).set (by omega)).set (by omega)
    · intro x
      (try simp only [setR_same, setR_nk, upS_setR, cpS_setR, setR_setR, ne_eq, Nat.reduceEqDiff, not_false_eq_true, Int.reduceEq, ↓reduceIte])
      rw [if_neg (by omega)]
  have eax : ∀ p, ashIx (σ 20 c) p (σ 16 c 8).toNat 0 = axK (vwC σ c) p := fun p => ax_vw
  have bx := ashIx_of (σ 20 c) (i + 1) (σ 16 c 8).toNat 0
  have bx2 := ashIx_of (σ 20 c) i (σ 16 c 8).toNat 0
  rw [eax] at bx bx2
  have D : vwC σ c = vwC σ c := rfl
  unfold remK at h
  (refine go (t := tb_X0_deleteLayer) (WPd_mono d) hP 40 [31, 79] ?_; (conv => whnf); (repeat' (first | (refine ⟨fun _ => ?_, fun _ => ?_⟩ <;> first | (exfalso; omega) | (conv => whnf)) | (refine ⟨by omega, ?_⟩; conv => whnf) | (intro _; conv => whnf))))
  refine t_X0_ashAt (by omega) (by omega) ha ?_
  rw [eax]
  have hdel : ∀ (h9 : axK (vwC σ c) (i + 1) ≠ -1) (h10 : i = 0 ∨ axK (vwC σ c) i ≠ -1), WPd d m_X0_deleteAsh [.inr (16, c), .inl (axK (vwC σ c) (i + 1))] σ (fun r σ' => P 31 [.inr (16, c), .inl i, .inl (axK (vwC σ c) (i + 1))] [] σ' ∧ r = none) := by
    intro h9 h10
    rw [if_pos ⟨h9, h10⟩] at h
    refine t_X0_deleteAsh (by omega) ha (by omega) (fun σ1 e1 o1 f1 f2 => ⟨M _ σ1 ?_ ?_ ?_ ?_ o1 ?_, rfl⟩)
    · rw [f1 16 (by omega), if_pos rfl, if_neg (by omega)]
    · rw [f1 16 (by omega), if_pos rfl, if_pos rfl]
      omega
    · rw [f1 16 (by omega), if_pos rfl, if_pos rfl]
      omega
    · intro j h0 h1
      rw [f1 16 (by omega), if_pos rfl, if_pos rfl] at h1
      rw [f2]
      unfold delF
      split
      · exact hp _ (by omega) (by omega)
      · exact hp _ (by omega) (by omega)
    · rw [e1]
      exact h
  have hno : ¬ (axK (vwC σ c) (i + 1) ≠ -1 ∧ (i = 0 ∨ axK (vwC σ c) i ≠ -1)) → P 31 [.inr (16, c), .inl i, .inl (axK (vwC σ c) (i + 1))] [] σ := by
    intro h9
    rw [if_neg h9] at h
    exact M _ σ rfl ha.1 ha.2 hp offC.rf h
  ((conv => whnf); (repeat' (first | (refine ⟨fun _ => ?_, fun _ => ?_⟩ <;> first | (exfalso; omega) | (conv => whnf)) | (refine ⟨by omega, ?_⟩; conv => whnf) | (intro _; conv => whnf))))
  · exact hno (fun e => e.1 (by assumption))
  · exact WPd_mono _ _ _ _ _ _ (fun r σ' e => by obtain ⟨e1, rfl⟩ := e; exact e1) (hdel (by assumption) (Or.inl (by assumption)))
  · refine t_X0_ashAt (by omega) (by omega) ha ?_
    rw [eax]
    ((conv => whnf); (repeat' (first | (refine ⟨fun _ => ?_, fun _ => ?_⟩ <;> first | (exfalso; omega) | (conv => whnf)) | (refine ⟨by omega, ?_⟩; conv => whnf) | (intro _; conv => whnf))))
    · exact hno (fun e => by rcases e.2 with q | q; exact absurd q (by assumption); exact q (by assumption))
    · exact WPd_mono _ _ _ _ _ _ (fun r σ' e => by obtain ⟨e1, rfl⟩ := e; exact e1) (hdel (by assumption) (Or.inr (by assumption)))
def ltF (f : Int → Int) (w : Int) : Nat → Int → Int
  | 0, _ => 0
  | n + 1, i => (if f i < w then 1 else 0) + ltF f w n (i + 1)
theorem ltF_b (f : Int → Int) (w : Int) : ∀ (n : Nat) (i : Int), 0 ≤ ltF f w n i ∧ ltF f w n i ≤ n
  | 0, _ => ⟨Int.le_refl _, Int.le_refl _⟩
  | n + 1, i => by
    unfold ltF
    have := ltF_b f w n (i + 1)
    split <;> omega
theorem ltF_cg {f g : Int → Int} {w : Int} : ∀ (n : Nat) (i : Int), (∀ j, i ≤ j → j < i + n → f j = g j) → ltF f w n i = ltF g w n i
  | 0, _, _ => rfl
  | n + 1, i, h => by
    unfold ltF
    rw [h i (by omega) (by omega), ltF_cg n (i + 1) (fun j h1 h2 => h j (by omega) (by omega))]
/-- the number that a new ash at a place would have -/
def nxK (K : KV) (p : Int) : Int := ltF (K 3) p (K 7 1).toNat 0
theorem nx_vw {σ : Sto} {c p : Int} : ltF (σ 20 c) p (σ 16 c 8).toNat 0 = nxK (vwC σ c) p := by
  unfold nxK
  rw [vw_a]
  exact ltF_cg _ _ fun j h1 h2 => (mask_in h1 (by omega)).symm
theorem t_X0_insertAsh {d : Nat} (hd : 2 ≤ d) {σ : Sto} {Q : Post} {c p a u : Int} (hn : 0 ≤ σ 16 c 8 ∧ σ 16 c 8 < 6) (hp : inR p) (ha : inR a) (hu : inR u) (h : ∀ σ', vwC σ' c = insAK (vwC σ c) (nxK (vwC σ c) p) p a u → offC c σ σ' → Q (some (.inl (nxK (vwC σ c) p))) σ') : WPd d m_X0_insertAsh [.inr (16, c), .inl p, .inl a, .inl u] σ Q := by
  obtain ⟨d, rfl⟩ : ∃ k, d = k + 1 := ⟨d - 1, by omega⟩
  intro P hP
  have en : ltF (σ 20 c) p (σ 16 c 8).toNat 0 = nxK (vwC σ c) p := nx_vw
  have L : ∀ (n : Nat) (s i : Int), n = (σ 16 c 8 - i).toNat → 0 ≤ i → i ≤ σ 16 c 8 → s + ltF (σ 20 c) p n i = nxK (vwC σ c) p → P 6 [.inr (16, c), .inl p, .inl a, .inl u, .inl s, .inl i] [] σ := by
    intro n
    induction n with
    | zero =>
      intro s i hn0 h0 h1 hq
      have hb := ltF_b (σ 20 c) p (σ 16 c 8).toNat 0
      rw [ltF, Int.add_zero] at hq
      rw [en] at hb
      subst hq
      (refine go (t := tb_X0_insertAsh) (WPd_mono d) hP 40 [6] ?_; (conv => whnf); (repeat' (first | (refine ⟨fun _ => ?_, fun _ => ?_⟩ <;> first | (exfalso; omega) | (conv => whnf)) | (refine ⟨by omega, ?_⟩; conv => whnf) | (intro _; conv => whnf))))
      refine t_X0_insertAt (len := 6) (by omega) rfl hp (by omega) (by omega) (by omega) (by omega) ?_
      ((conv => whnf); (repeat' (first | (refine ⟨fun _ => ?_, fun _ => ?_⟩ <;> first | (exfalso; omega) | (conv => whnf)) | (refine ⟨by omega, ?_⟩; conv => whnf) | (intro _; conv => whnf))))
      (try simp only [setR_same, setR_nk, upS_setR, cpS_setR, setR_setR, ne_eq, Nat.reduceEqDiff, not_false_eq_true, Int.reduceEq, ↓reduceIte])
      refine t_X0_insertAt (len := 6) (by omega) rfl ha (by omega) (by omega) (by omega) (by omega) ?_
      ((conv => whnf); (repeat' (first | (refine ⟨fun _ => ?_, fun _ => ?_⟩ <;> first | (exfalso; omega) | (conv => whnf)) | (refine ⟨by omega, ?_⟩; conv => whnf) | (intro _; conv => whnf))))
      (try simp only [setR_same, setR_nk, upS_setR, cpS_setR, setR_setR, ne_eq, Nat.reduceEqDiff, not_false_eq_true, Int.reduceEq, ↓reduceIte])
      refine t_X0_insertAt (len := 6) (by omega) rfl hu (by omega) (by omega) (by omega) (by omega) ?_
      ((conv => whnf); (repeat' (first | (refine ⟨fun _ => ?_, fun _ => ?_⟩ <;> first | (exfalso; omega) | (conv => whnf)) | (refine ⟨by omega, ?_⟩; conv => whnf) | (intro _; conv => whnf))))
      (try simp only [setR_same, setR_nk, upS_setR, cpS_setR, setR_setR, ne_eq, Nat.reduceEqDiff, not_false_eq_true, Int.reduceEq, ↓reduceIte])
      refine ⟨by omega, ?_⟩
      ((conv => whnf); (repeat' (first | (refine ⟨fun _ => ?_, fun _ => ?_⟩ <;> first | (exfalso; omega) | (conv => whnf)) | (refine ⟨by omega, ?_⟩; conv => whnf) | (intro _; conv => whnf))))
      (try simp only [setR_same, setR_nk, upS_setR, cpS_setR, setR_setR, ne_eq, Nat.reduceEqDiff, not_false_eq_true, Int.reduceEq, ↓reduceIte])
      refine h _ ?_ ((((offC.rf.set (by omega)).set (by omega)).set (by omega)).set (by omega))
      show mkV _ _ _ _ _ _ _ _ _ = insAK (mkV _ _ _ _ _ _ _ _ _) _ _ _ _
      (try simp only [setR_same, setR_nk, upS_setR, cpS_setR, setR_setR, ne_eq, Nat.reduceEqDiff, not_false_eq_true, Int.reduceEq, ↓reduceIte])
      exact insAK_mk (by omega) (by omega)
    | succ n ih =>
      intro s i hn0 h0 h1 hq
      (refine go (t := tb_X0_insertAsh) (WPd_mono d) hP 40 [6] ?_; (conv => whnf); (repeat' (first | (refine ⟨fun _ => ?_, fun _ => ?_⟩ <;> first | (exfalso; omega) | (conv => whnf)) | (refine ⟨by omega, ?_⟩; conv => whnf) | (intro _; conv => whnf))))
      · exact ih _ (i + 1) (by omega) (by omega) (by omega) (by rwa [ltF, if_neg (by omega), Int.zero_add] at hq)
      · exact ih _ (i + 1) (by omega) (by omega) (by omega) (by rwa [ltF, if_pos (by omega), ← Int.add_assoc] at hq)
  (refine go (t := tb_X0_insertAsh) (WPd_mono d) hP 40 [6] ?_; (conv => whnf); (repeat' (first | (refine ⟨fun _ => ?_, fun _ => ?_⟩ <;> first | (exfalso; omega) | (conv => whnf)) | (refine ⟨by omega, ?_⟩; conv => whnf) | (intro _; conv => whnf))))
  exact L (σ 16 c 8).toNat 0 0 (by omega) (by omega) (by omega) (by rw [Int.zero_add]; exact en)
/-! History -/
theorem t_X1_keep {d : Nat} (hd : 3 ≤ d) {σ : Sto} {Q : Post} (hx : 0 ≤ σ 1 0 1 ∧ σ 1 0 1 < 6) (hs : 0 ≤ σ 1 0 2 ∧ σ 1 0 2 ≤ 6) (hn : 0 ≤ σ 16 0 7 ∧ σ 16 0 7 ≤ 50) (ha : 0 ≤ σ 16 0 8 ∧ σ 16 0 8 ≤ 6) (h : ∀ σ', σ' 1 0 1 = (if σ 1 0 1 = 5 then 0 else σ 1 0 1 + 1) → σ' 1 0 2 = min 6 (σ 1 0 2 + 1) → vwC σ' (2 + σ 1 0 1) = vwC σ 0 → (∀ k i, k ≠ 1 → ¬ (16 ≤ k ∧ k ≤ 23 ∧ i = 2 + σ 1 0 1) → σ' k i = σ k i) → Q none σ') : WPd d m_X1_keep [.inr (1, 0), .inr (16, 0)] σ Q := by
  obtain ⟨d, rfl⟩ : ∃ k, d = k + 1 := ⟨d - 1, by omega⟩
  intro P hP
  (refine go (t := tb_X1_keep) (WPd_mono d) hP 60 [] ?_; (conv => whnf); (repeat' (first | (refine ⟨fun _ => ?_, fun _ => ?_⟩ <;> first | (exfalso; omega) | (conv => whnf)) | (refine ⟨by omega, ?_⟩; conv => whnf) | (intro _; conv => whnf))))
  refine t_X0_takeAll (by omega) (by omega) hn ha (fun σ1 e1 o1 => ?_)
  have e3 : σ1 1 0 = σ 1 0 := o1 1 0 (by omega)
  have e4 : σ1 1 0 1 = σ 1 0 1 := congrFun e3 1
  have e5 : σ1 1 0 2 = σ 1 0 2 := congrFun e3 2
  ((conv => whnf); (repeat' (first | (refine ⟨fun _ => ?_, fun _ => ?_⟩ <;> first | (exfalso; omega) | (conv => whnf)) | (refine ⟨by omega, ?_⟩; conv => whnf) | (intro _; conv => whnf))))
  · ((repeat ((try simp only [setR_same, setR_nk, upS_setR, cpS_setR, setR_setR, ne_eq, Nat.reduceEqDiff, not_false_eq_true, Int.reduceEq, ↓reduceIte]); refine ⟨by omega, ?_⟩; ((conv => whnf); (repeat' (first | (refine ⟨fun _ => ?_, fun _ => ?_⟩ <;> first | (exfalso; omega) | (conv => whnf)) | (refine ⟨by omega, ?_⟩; conv => whnf) | (intro _; conv => whnf)))))); (try simp only [setR_same, setR_nk, upS_setR, cpS_setR, setR_setR, ne_eq, Nat.reduceEqDiff, not_false_eq_true, Int.reduceEq, ↓reduceIte]))
    refine h _ ?_ ?_ ?_ (fun k i h1 h2 => ?_)
    · (try simp only [setR_same, setR_nk, upS_setR, cpS_setR, setR_setR, ne_eq, Nat.reduceEqDiff, not_false_eq_true, Int.reduceEq, ↓reduceIte])
      rw [e4, if_neg (by omega)]
    · (try simp only [setR_same, setR_nk, upS_setR, cpS_setR, setR_setR, ne_eq, Nat.reduceEqDiff, not_false_eq_true, Int.reduceEq, ↓reduceIte])
      rw [e5]
    · rw [← e1]
      exact vwC_cg fun k h1 h2 => by rw [setR_nk (by omega)]
    · rw [setR_nk h1]
      exact o1 k i h2
  · ((repeat ((try simp only [setR_same, setR_nk, upS_setR, cpS_setR, setR_setR, ne_eq, Nat.reduceEqDiff, not_false_eq_true, Int.reduceEq, ↓reduceIte]); refine ⟨by omega, ?_⟩; ((conv => whnf); (repeat' (first | (refine ⟨fun _ => ?_, fun _ => ?_⟩ <;> first | (exfalso; omega) | (conv => whnf)) | (refine ⟨by omega, ?_⟩; conv => whnf) | (intro _; conv => whnf)))))); (try simp only [setR_same, setR_nk, upS_setR, cpS_setR, setR_setR, ne_eq, Nat.reduceEqDiff, not_false_eq_true, Int.reduceEq, ↓reduceIte]))
    refine h _ ?_ ?_ ?_ (fun k i h1 h2 => ?_)
    · (try simp only [setR_same, setR_nk, upS_setR, cpS_setR, setR_setR, ne_eq, Nat.reduceEqDiff, not_false_eq_true, Int.reduceEq, ↓reduceIte])
      rw [if_pos (by omega)]
    · (try simp only [setR_same, setR_nk, upS_setR, cpS_setR, setR_setR, ne_eq, Nat.reduceEqDiff, not_false_eq_true, Int.reduceEq, ↓reduceIte])
      rw [e5]
    · rw [← e1]
      exact vwC_cg fun k h1 h2 => by rw [setR_nk (by omega)]
    · rw [setR_nk h1]
      exact o1 k i h2
theorem t_X1_restore {d : Nat} (hd : 3 ≤ d) {σ : Sto} {Q : Post} (hx : 0 ≤ σ 1 0 1 ∧ σ 1 0 1 < 6) (hs : 0 < σ 1 0 2 ∧ σ 1 0 2 ≤ 6) (hn : ∀ x, x = (if σ 1 0 1 = 0 then 5 else σ 1 0 1 - 1) → (0 ≤ σ 16 (2 + x) 7 ∧ σ 16 (2 + x) 7 ≤ 50) ∧ (0 ≤ σ 16 (2 + x) 8 ∧ σ 16 (2 + x) 8 ≤ 6)) (h : ∀ σ' x, x = (if σ 1 0 1 = 0 then 5 else σ 1 0 1 - 1) → σ' 1 0 1 = x → σ' 1 0 2 = σ 1 0 2 - 1 → vwC σ' 0 = vwC σ (2 + x) → (∀ k i, k ≠ 1 → ¬ (16 ≤ k ∧ k ≤ 23 ∧ i = 0) → σ' k i = σ k i) → Q none σ') : WPd d m_X1_restore [.inr (1, 0), .inr (16, 0)] σ Q := by
  obtain ⟨d, rfl⟩ : ∃ k, d = k + 1 := ⟨d - 1, by omega⟩
  intro P hP
  have fin : ∀ (x : Int), x = (if σ 1 0 1 = 0 then 5 else σ 1 0 1 - 1) → 0 ≤ x → x < 6 → P 31 [.inr (1, 0), .inr (16, 0)] [.inr (16, 2 + x), .inr (16, 0)] (setR σ 1 0 (fun j => if j = 1 then x else σ 1 0 j)) := by
    intro x hx0 hx1 hx2
    (refine go (t := tb_X1_restore) (WPd_mono d) hP 60 [] ?_; (conv => whnf); (repeat' (first | (refine ⟨fun _ => ?_, fun _ => ?_⟩ <;> first | (exfalso; omega) | (conv => whnf)) | (refine ⟨by omega, ?_⟩; conv => whnf) | (intro _; conv => whnf))))
    refine t_X0_takeAll (by omega) (by omega) (by (try simp only [setR_same, setR_nk, upS_setR, cpS_setR, setR_setR, ne_eq, Nat.reduceEqDiff, not_false_eq_true, Int.reduceEq, ↓reduceIte]); exact (hn _ hx0).1) (by (try simp only [setR_same, setR_nk, upS_setR, cpS_setR, setR_setR, ne_eq, Nat.reduceEqDiff, not_false_eq_true, Int.reduceEq, ↓reduceIte]); exact (hn _ hx0).2) (fun σ1 e1 o1 => ?_)
    have e3 : σ1 1 0 = fun j => if j = 1 then x else σ 1 0 j := by
      rw [o1 1 0 (by omega)]
      exact setR_same
    have e5 : σ1 1 0 2 = σ 1 0 2 := by
      rw [e3]
      rfl
    have e6 : σ1 1 0 1 = x := by
      rw [e3]
      rfl
    ((conv => whnf); (repeat' (first | (refine ⟨fun _ => ?_, fun _ => ?_⟩ <;> first | (exfalso; omega) | (conv => whnf)) | (refine ⟨by omega, ?_⟩; conv => whnf) | (intro _; conv => whnf))))
    ((repeat ((try simp only [setR_same, setR_nk, upS_setR, cpS_setR, setR_setR, ne_eq, Nat.reduceEqDiff, not_false_eq_true, Int.reduceEq, ↓reduceIte]); refine ⟨by omega, ?_⟩; ((conv => whnf); (repeat' (first | (refine ⟨fun _ => ?_, fun _ => ?_⟩ <;> first | (exfalso; omega) | (conv => whnf)) | (refine ⟨by omega, ?_⟩; conv => whnf) | (intro _; conv => whnf)))))); (try simp only [setR_same, setR_nk, upS_setR, cpS_setR, setR_setR, ne_eq, Nat.reduceEqDiff, not_false_eq_true, Int.reduceEq, ↓reduceIte]))
    refine h _ x hx0 ?_ ?_ ?_ (fun k i h1 h2 => ?_)
    · (try simp only [setR_same, setR_nk, upS_setR, cpS_setR, setR_setR, ne_eq, Nat.reduceEqDiff, not_false_eq_true, Int.reduceEq, ↓reduceIte])
      exact e6
    · (try simp only [setR_same, setR_nk, upS_setR, cpS_setR, setR_setR, ne_eq, Nat.reduceEqDiff, not_false_eq_true, Int.reduceEq, ↓reduceIte])
      rw [e5]
    · rw [vwC_cg (σ := σ1) (fun k h1 h2 => by rw [setR_nk (by omega)]), e1]
      exact vwC_cg fun k h1 h2 => by rw [setR_nk (by omega)]
    · rw [setR_nk h1, o1 k i h2, setR_nk h1]
  (refine go (t := tb_X1_restore) (WPd_mono d) hP 60 [31] ?_; (conv => whnf); (repeat' (first | (refine ⟨fun _ => ?_, fun _ => ?_⟩ <;> first | (exfalso; omega) | (conv => whnf)) | (refine ⟨by omega, ?_⟩; conv => whnf) | (intro _; conv => whnf))))
  · (try simp only [setR_same, setR_nk, upS_setR, cpS_setR, setR_setR, ne_eq, Nat.reduceEqDiff, not_false_eq_true, Int.reduceEq, ↓reduceIte])
    refine ⟨by omega, ?_⟩
    ((conv => whnf); (repeat' (first | (refine ⟨fun _ => ?_, fun _ => ?_⟩ <;> first | (exfalso; omega) | (conv => whnf)) | (refine ⟨by omega, ?_⟩; conv => whnf) | (intro _; conv => whnf))))
    exact fin _ (by rw [if_neg (by assumption)]) (by omega) (by omega)
  · (try simp only [setR_same, setR_nk, upS_setR, cpS_setR, setR_setR, ne_eq, Nat.reduceEqDiff, not_false_eq_true, Int.reduceEq, ↓reduceIte])
    refine ⟨by omega, ?_⟩
    ((conv => whnf); (repeat' (first | (refine ⟨fun _ => ?_, fun _ => ?_⟩ <;> first | (exfalso; omega) | (conv => whnf)) | (refine ⟨by omega, ?_⟩; conv => whnf) | (intro _; conv => whnf))))
    exact fin _ (by rw [if_pos (by assumption)]) (by omega) (by omega)
end
section
/-! WHAT IS COUNTED: counts of a core as paths, their costs; the state of the class and of the model as one value -/
def acK (K : KV) (p a : Int) : Option Int := if axK K p = -1 then some 0 else if K 5 (axK K p) < dif a (K 4 (axK K p)) then none else some (dif a (K 4 (axK K p)) * K 6 3)
abbrev oK (K : KV) (p o : Int) : Int := oCst (K 1 p) o (K 6 0) (K 6 1)
/-- the costs of what can follow from an age of a place on, m layers long, ashes below it included -/
def cont (K : KV) (ac : Int → Int → Option Int) (B : Int) : Nat → Int → Int → Int → Prop
  | 0, _, _, c => c = 0
  | m + 1, p, a, c => ∃ o g w c', (lo (K 1 p) ≤ o ∧ o ≤ hi (K 1 p)) ∧ (0 ≤ g ∧ g ≤ K 2 p) ∧ a + o + g ≤ B ∧ ac (p + 1) (a + o + g) = some w ∧ cont K ac B m (p + 1) (a + o + g) c' ∧ c = oK K p o + g * K 6 2 + w + c'
/-- the costs of what can lead from the top to an age of a place, ashes above it included -/
def pre (K : KV) (ac : Int → Int → Option Int) (B : Int) : Nat → Int → Int → Prop
  | 0, a, c => a = 0 ∧ c = 0
  | p + 1, a, c => ∃ o g w c' a', (lo (K 1 p) ≤ o ∧ o ≤ hi (K 1 p)) ∧ (0 ≤ g ∧ g ≤ K 2 p) ∧ a = a' + o + g ∧ a ≤ B ∧ ac p a' = some w ∧ pre K ac B p a' c' ∧ c = c' + w + oK K p o + g * K 6 2
/-- v is the least of S, N or more if S is empty -/
def Mn (S : Int → Prop) (N v : Int) : Prop := (∀ c, S c → v ≤ c) ∧ ((v = N ∧ ∀ c, ¬ S c) ∨ (v < N ∧ S v))
def old (K : KV) : Int := min 600 (sumF (fun i => hi (K 1 i) + K 2 i) (K 7 0).toNat 0)
/-- the least cost goes through these years of the layer -/
def thr (K : KV) (ac : Int → Int → Option Int) (B : Int) (m : Nat) (p a o g : Int) : Prop := (lo (K 1 p) ≤ o ∧ o ≤ hi (K 1 p)) ∧ (0 ≤ g ∧ g ≤ K 2 p) ∧ a + o + g ≤ B ∧ ∃ w c', ac (p + 1) (a + o + g) = some w ∧ cont K ac B m (p + 1) (a + o + g) c' ∧ ∀ c, cont K ac B (m + 1) p a c → oK K p o + g * K 6 2 + w + c' ≤ c
def PkL (K : KV) (ac : Int → Int → Option Int) (B : Int) (m : Nat) (p a o g : Int) : Prop := thr K ac B m p a o g ∧ ∀ o' g', thr K ac B m p a o' g' → o + g < o' + g' ∨ (o + g = o' + g' ∧ o ≤ o')
def Bst (K : KV) (ac : Int → Int → Option Int) (B : Int) (A O G : Int → Int) : Prop := A 0 = 0 ∧ ∀ p, 0 ≤ p → p < K 7 0 → PkL K ac B (K 7 0 - p - 1).toNat p (A p) (O p) (G p) ∧ A (p + 1) = A p + O p + G p
def sumN (f : Nat → Nat) : Nat → Nat
  | 0 => 0
  | n + 1 => sumN f n + f n
noncomputable def nW (K : KV) (ac : Int → Int → Option Int) (B : Int) : Nat → Int → Int → Nat
  | 0, _, _ => 1
  | m + 1, p, a => sumN (fun o => sumN (fun g => @ite _ (thr K ac B m p a o g) (Classical.propDecidable _) (nW K ac B m (p + 1) (a + o + g)) 0) 21) 3
def WFK (K : KV) : Prop := (0 ≤ K 7 0 ∧ K 7 0 ≤ 50) ∧ (0 ≤ K 7 1 ∧ K 7 1 ≤ 6) ∧ (∀ j, 0 ≤ j → j < K 7 0 → (1 ≤ K 0 j ∧ K 0 j ≤ 99) ∧ (0 ≤ K 1 j ∧ K 1 j ≤ 2) ∧ (0 ≤ K 2 j ∧ K 2 j ≤ 20)) ∧ (∀ j, 0 ≤ j → j < K 7 1 → (1 ≤ K 3 j ∧ K 3 j ≤ K 7 0) ∧ (0 ≤ K 4 j ∧ K 4 j ≤ 500) ∧ (0 ≤ K 5 j ∧ K 5 j ≤ 9)) ∧ (∀ i j, 0 ≤ i → i < j → j < K 7 1 → K 3 i < K 3 j) ∧ (∀ j, 0 ≤ j → j < 4 → 0 ≤ K 6 j ∧ K 6 j ≤ 50)
def BelOk (σ : Sto) (K : KV) : Prop := σ 3 0 11 = old K ∧ (∀ p a, 0 ≤ p → p ≤ K 7 0 → 0 ≤ a → a ≤ old K → Mn (cont K (acK K) (old K) (K 7 0 - p).toNat p a) 268435456 (σ 25 p a)) ∧ (σ 25 0 0 < 268435456 → Bst K (acK K) (old K) (σ 15 0) (σ 13 0) (σ 14 0))
def AbvOk (σ : Sto) (K : KV) : Prop := ∀ p a, 0 ≤ p → p ≤ K 7 0 → 0 ≤ a → a ≤ old K → Mn (pre K (acK K) (old K) p.toNat a) 268435456 (σ 24 p a)
def RecOk (σ : Sto) (K : KV) : Prop := (σ 3 0 12 = 0 ∨ σ 3 0 12 = 1) ∧ (σ 3 0 13 = 0 ∨ σ 3 0 13 = 1) ∧ (σ 3 0 12 = 1 → BelOk σ K) ∧ (σ 3 0 13 = 1 → σ 3 0 12 = 1 ∧ AbvOk σ K) ∧ (σ 3 0 14 = -1 ∨ (σ 3 0 12 = 1 ∧ σ 25 0 0 < 268435456 ∧ σ 3 0 14 = min 1000000 (nW K (acK K) (old K) (K 7 0).toNat 0 0 : Int)))
def HistR (σ : Sto) (h : Int) (HK : Int → KV) : Prop := σ 1 0 2 = h ∧ (0 ≤ h ∧ h ≤ 6) ∧ (0 ≤ σ 1 0 1 ∧ σ 1 0 1 < 6) ∧ ∀ s, 0 ≤ s → s < h → vwC σ (2 + (σ 1 0 1 - h + s) % 6) = HK s ∧ WFK (HK s)
def TxtR (σ : Sto) (tl : Int) (tx : Int → Int) : Prop := σ 2 0 2 = tl ∧ (0 ≤ tl ∧ tl ≤ 90) ∧ ∀ j, 0 ≤ j → j < tl → σ 5 0 j = tx j ∧ (32 ≤ tx j ∧ tx j ≤ 126)
def ClassR (σ : Sto) (K : KV) (h : Int) (HK : Int → KV) (tl : Int) (tx : Int → Int) : Prop := vwC σ 0 = K ∧ WFK K ∧ HistR σ h HK ∧ TxtR σ tl tx ∧ RecOk σ K
def pushH (h : Int) (HK : Int → KV) (K : KV) : Int → KV := fun s => if h = 6 then (if s < 5 then HK (s + 1) else K) else (if s < h then HK s else K)
theorem RecOk_0 {σ : Sto} {K : KV} (h1 : σ 3 0 12 = 0) (h2 : σ 3 0 13 = 0) (h3 : σ 3 0 14 = -1) : RecOk σ K := ⟨Or.inl h1, Or.inl h2, fun q => by omega, fun q => by omega, Or.inl h3⟩
theorem RecOk_off {σ σ' : Sto} {K : KV} (h : RecOk σ K) (ho : ∀ k i, (k = 3 ∨ k = 13 ∨ k = 14 ∨ k = 15 ∨ k = 24 ∨ k = 25) → σ' k i = σ k i) : RecOk σ' K := by
  unfold RecOk BelOk AbvOk at h ⊢
  rw [ho 3 0 (by omega), ho 13 0 (by omega), ho 14 0 (by omega), ho 15 0 (by omega), ho 25 0 (by omega)]
  simp only [ho 24 _ (by omega), ho 25 _ (by omega)]
  exact h
theorem HistR_off {σ σ' : Sto} {h : Int} {HK : Int → KV} (hh : HistR σ h HK) (ho : ∀ k i, (k = 1 ∨ (16 ≤ k ∧ k ≤ 23 ∧ 2 ≤ i)) → σ' k i = σ k i) : HistR σ' h HK := by
  obtain ⟨h1, h2, h3, h4⟩ := hh
  have e : σ' 1 0 = σ 1 0 := ho 1 0 (Or.inl rfl)
  refine ⟨by rw [e]; exact h1, h2, by rw [e]; exact h3, fun s s0 s1 => ?_⟩
  rw [e, vwC_cg (σ := σ) (fun k k0 k1 => ho k _ (Or.inr ⟨k0, k1, by omega⟩))]
  exact h4 s s0 s1
theorem TxtR_off {σ σ' : Sto} {tl : Int} {tx : Int → Int} (h : TxtR σ tl tx) (ho : ∀ k i, (k = 2 ∨ k = 5) → σ' k i = σ k i) : TxtR σ' tl tx := by
  unfold TxtR at h ⊢
  rw [ho 2 0 (by omega), ho 5 0 (by omega)]
  exact h
theorem HistR_push {σ σ' : Sto} {h : Int} {HK : Int → KV} (hh : HistR σ h HK) (hw : WFK (vwC σ 0)) (e1 : σ' 1 0 1 = (if σ 1 0 1 = 5 then 0 else σ 1 0 1 + 1)) (e2 : σ' 1 0 2 = min 6 (σ 1 0 2 + 1)) (e3 : vwC σ' (2 + σ 1 0 1) = vwC σ 0) (ho : ∀ k i, k ≠ 1 → ¬ (16 ≤ k ∧ k ≤ 23 ∧ i = 2 + σ 1 0 1) → σ' k i = σ k i) : HistR σ' (min 6 (h + 1)) (pushH h HK (vwC σ 0)) := by
  obtain ⟨h1, h2, h3, h4⟩ := hh
  have hnx : σ' 1 0 1 = (σ 1 0 1 + 1) % 6 := by
    rw [e1]
    split <;> omega
  have old' : ∀ c, 2 ≤ c → c ≠ 2 + σ 1 0 1 → vwC σ' c = vwC σ c := fun c c0 c1 => vwC_cg fun k k0 k1 => ho k c (by omega) (fun e => c1 e.2.2)
  refine ⟨by rw [e2, h1], by omega, by omega, fun s s0 s1 => ?_⟩
  unfold pushH
  by_cases q : h = 6
  · rw [if_pos q]
    by_cases q2 : s < 5
    · rw [if_pos q2, show (2 + (σ' 1 0 1 - min 6 (h + 1) + s) % 6) = 2 + (σ 1 0 1 - h + (s + 1)) % 6 by omega, old' _ (by omega) (by omega)]
      exact h4 (s + 1) (by omega) (by omega)
    · rw [if_neg q2, show (2 + (σ' 1 0 1 - min 6 (h + 1) + s) % 6) = 2 + σ 1 0 1 by omega]
      exact ⟨e3, hw⟩
  · rw [if_neg q]
    by_cases q2 : s < h
    · rw [if_pos q2, show (2 + (σ' 1 0 1 - min 6 (h + 1) + s) % 6) = 2 + (σ 1 0 1 - h + s) % 6 by omega, old' _ (by omega) (by omega)]
      exact h4 s s0 q2
    · rw [if_neg q2, show (2 + (σ' 1 0 1 - min 6 (h + 1) + s) % 6) = 2 + σ 1 0 1 by omega]
      exact ⟨e3, hw⟩
theorem HistR_pop {σ σ' : Sto} {h : Int} {HK : Int → KV} (hh : HistR σ h HK) (hp : 0 < h) {x : Int} (hx : x = if σ 1 0 1 = 0 then 5 else σ 1 0 1 - 1) (e1 : σ' 1 0 1 = x) (e2 : σ' 1 0 2 = σ 1 0 2 - 1) (ho : ∀ k i, k ≠ 1 → ¬ (16 ≤ k ∧ k ≤ 23 ∧ i = 0) → σ' k i = σ k i) : HistR σ' (h - 1) HK ∧ vwC σ (2 + x) = HK (h - 1) ∧ WFK (HK (h - 1)) := by
  obtain ⟨h1, h2, h3, h4⟩ := hh
  have hx2 : x = (σ 1 0 1 - 1) % 6 := by
    rw [hx]
    split <;> omega
  refine ⟨⟨by rw [e2, h1], by omega, by omega, fun s s0 s1 => ?_⟩, ?_⟩
  · rw [show (2 + (σ' 1 0 1 - (h - 1) + s) % 6) = 2 + (σ 1 0 1 - h + s) % 6 by omega, vwC_cg (σ := σ) (fun k k0 k1 => ho k _ (by omega) (by omega))]
    exact h4 s s0 (by omega)
  · have := h4 (h - 1) (by omega) (by omega)
    rw [show (2 + (σ 1 0 1 - h + (h - 1)) % 6) = 2 + x by omega] at this
    exact this
end
section
/-! CHANGES keep a core well formed -/
theorem axK_of (K : KV) (p : Int) (ha : 0 ≤ K 7 1) : (axK K p = -1 ∧ ∀ j, 0 ≤ j → j < K 7 1 → K 3 j ≠ p) ∨ (0 ≤ axK K p ∧ axK K p < K 7 1 ∧ K 3 (axK K p) = p) := by
  unfold axK
  rcases ashIx_of (K 3) p (K 7 1).toNat 0 with ⟨a, b⟩ | ⟨a, b, c⟩
  · exact Or.inl ⟨a, fun j h0 h1 => b j h0 (by omega)⟩
  · exact Or.inr ⟨a, by omega, c⟩
theorem WFK_ins {K : KV} (hK : WFK K) {i t k m : Int} (hn : K 7 0 < 50) (hi : 0 ≤ i ∧ i ≤ K 7 0) (ht : 1 ≤ t ∧ t ≤ 99) (hk : 0 ≤ k ∧ k ≤ 2) (hm : 0 ≤ m ∧ m ≤ 20) : WFK (insK K i t k m) := by
  obtain ⟨h1, h2, h3, h4, h5, h6⟩ := hK
  refine ⟨?_, h2, ?_, ?_, ?_, h6⟩
  · show 0 ≤ K 7 0 + 1 ∧ K 7 0 + 1 ≤ 50
    omega
  · intro j j0 j1
    have j1 : j < K 7 0 + 1 := j1
    show (1 ≤ insM (K 0) i t j ∧ insM (K 0) i t j ≤ 99) ∧ (0 ≤ insM (K 1) i k j ∧ insM (K 1) i k j ≤ 2) ∧ (0 ≤ insM (K 2) i m j ∧ insM (K 2) i m j ≤ 20)
    unfold insM
    by_cases a : j < i
    · simp only [if_pos a]
      exact h3 j j0 (by omega)
    · simp only [if_neg a]
      by_cases b : j = i
      · simp only [if_pos b]
        exact ⟨ht, hk, hm⟩
      · simp only [if_neg b]
        exact h3 (j - 1) (by omega) (by omega)
  · intro j j0 j1
    have j1 : j < K 7 1 := j1
    obtain ⟨g1, g2⟩ := h4 j j0 j1
    refine ⟨?_, g2⟩
    show 1 ≤ upP (K 3) i j ∧ upP (K 3) i j ≤ K 7 0 + 1
    unfold upP
    split <;> omega
  · intro x y x0 xy y1
    have := h5 x y x0 xy y1
    show upP (K 3) i x < upP (K 3) i y
    unfold upP
    split <;> split <;> omega
theorem WFK_delA {K : KV} (hK : WFK K) {x : Int} (hx : 0 ≤ x ∧ x < K 7 1) : WFK (delAK K x) := by
  obtain ⟨h1, h2, h3, h4, h5, h6⟩ := hK
  refine ⟨h1, ?_, h3, ?_, ?_, h6⟩
  · show 0 ≤ K 7 1 - 1 ∧ K 7 1 - 1 ≤ 6
    omega
  · intro j j0 j1
    have j1 : j < K 7 1 - 1 := j1
    show (1 ≤ delM (K 3) x j ∧ delM (K 3) x j ≤ K 7 0) ∧ (0 ≤ delM (K 4) x j ∧ delM (K 4) x j ≤ 500) ∧ (0 ≤ delM (K 5) x j ∧ delM (K 5) x j ≤ 9)
    unfold delM
    by_cases a : j < x
    · simp only [if_pos a]
      exact h4 j j0 (by omega)
    · simp only [if_neg a]
      exact h4 (j + 1) (by omega) (by omega)
  · intro a b a0 ab b1
    have b1 : b < K 7 1 - 1 := b1
    show delM (K 3) x a < delM (K 3) x b
    unfold delM
    split <;> split
    · exact h5 a b a0 ab (by omega)
    · exact h5 a (b + 1) a0 (by omega) (by omega)
    · omega
    · exact h5 (a + 1) (b + 1) (by omega) (by omega) (by omega)
theorem WFK_delL {K : KV} (hK : WFK K) {i : Int} (hi : 0 ≤ i ∧ i < K 7 0) (hq : (∀ j, 0 ≤ j → j < K 7 1 → K 3 j ≠ i + 1) ∨ (i ≠ 0 ∧ ∀ j, 0 ≤ j → j < K 7 1 → K 3 j ≠ i)) : WFK (delLK K i) := by
  obtain ⟨h1, h2, h3, h4, h5, h6⟩ := hK
  refine ⟨?_, h2, ?_, ?_, ?_, h6⟩
  · show 0 ≤ K 7 0 - 1 ∧ K 7 0 - 1 ≤ 50
    omega
  · intro j j0 j1
    have j1 : j < K 7 0 - 1 := j1
    show (1 ≤ delM (K 0) i j ∧ delM (K 0) i j ≤ 99) ∧ (0 ≤ delM (K 1) i j ∧ delM (K 1) i j ≤ 2) ∧ (0 ≤ delM (K 2) i j ∧ delM (K 2) i j ≤ 20)
    unfold delM
    by_cases a : j < i
    · simp only [if_pos a]
      exact h3 j j0 (by omega)
    · simp only [if_neg a]
      exact h3 (j + 1) (by omega) (by omega)
  · intro j j0 j1
    have j1 : j < K 7 1 := j1
    obtain ⟨g1, g2⟩ := h4 j j0 j1
    refine ⟨?_, g2⟩
    show 1 ≤ dnP (K 3) i j ∧ dnP (K 3) i j ≤ K 7 0 - 1
    unfold dnP
    rcases hq with q | ⟨q0, q⟩
    · have := q j j0 j1
      split <;> omega
    · split <;> omega
  · intro x y x0 xy y1
    have y1 : y < K 7 1 := y1
    have e := h5 x y x0 xy y1
    show dnP (K 3) i x < dnP (K 3) i y
    unfold dnP
    rcases hq with q | ⟨q0, q⟩
    · have := q x x0 (by omega)
      have := q y (by omega) y1
      split <;> split <;> omega
    · have := q x x0 (by omega)
      have := q y (by omega) y1
      split <;> split <;> omega
theorem WFK_rem {K : KV} (hK : WFK K) {i : Int} (hi : 0 ≤ i ∧ i < K 7 0) : WFK (remK K i) := by
  unfold remK
  have ha := hK.2.1.1
  rcases axK_of K (i + 1) ha with ⟨a, b⟩ | ⟨a, b, c⟩
  · rw [if_neg (fun e => e.1 a)]
    exact WFK_delL hK hi (Or.inl b)
  · by_cases q : i = 0 ∨ axK K i ≠ -1
    · rw [if_pos ⟨by omega, q⟩]
      refine WFK_delL (WFK_delA hK ⟨a, b⟩) hi (Or.inl fun j j0 j1 => ?_)
      have j1 : j < K 7 1 - 1 := j1
      show delM (K 3) (axK K (i + 1)) j ≠ i + 1
      have h5 := hK.2.2.2.2.1
      unfold delM
      split
      · have := h5 j (axK K (i + 1)) j0 (by omega) b
        omega
      · have := h5 (axK K (i + 1)) (j + 1) a (by omega) (by omega)
        omega
    · rw [if_neg (fun e => q e.2)]
      refine WFK_delL hK hi (Or.inr ⟨fun e => q (Or.inl e), ?_⟩)
      rcases axK_of K i ha with ⟨a2, b2⟩ | ⟨a2, b2, c2⟩
      · exact b2
      · exact absurd (Or.inr (by omega)) q
theorem ltF_0 (f : Int → Int) (w : Int) : ∀ (n : Nat) (i : Int), (∀ j, i ≤ j → j < i + n → ¬ f j < w) → ltF f w n i = 0
  | 0, _, _ => rfl
  | n + 1, i, h => by
    unfold ltF
    rw [if_neg (h i (by omega) (by omega)), ltF_0 f w n (i + 1) (fun j h1 h2 => h j (by omega) (by omega))]
    rfl
theorem ltF_cut (f : Int → Int) (w : Int) : ∀ (n : Nat) (i : Int), (∀ x y, i ≤ x → x < y → y < i + n → f x < f y) → (∀ j, i ≤ j → j < i + ltF f w n i → f j < w) ∧ ∀ j, i + ltF f w n i ≤ j → j < i + n → ¬ f j < w
  | 0, i, _ => ⟨fun j h1 h2 => by simp only [ltF] at h2; omega, fun j h1 h2 => by simp only [ltF] at h1; omega⟩
  | n + 1, i, h => by
    by_cases q : f i < w
    · obtain ⟨a, b⟩ := ltF_cut f w n (i + 1) (fun x y h1 h2 h3 => h x y (by omega) h2 (by omega))
      unfold ltF
      rw [if_pos q]
      refine ⟨fun j h1 h2 => ?_, fun j h1 h2 => b j (by omega) (by omega)⟩
      by_cases e : j = i
      · rw [e]
        exact q
      · exact a j (by omega) (by omega)
    · have z : ∀ j, i ≤ j → j < i + ((n + 1 : Nat) : Int) → ¬ f j < w := fun j h1 h2 => by
        by_cases e : j = i
        · rw [e]
          exact q
        · have := h i j (by omega) (by omega) (by omega)
          omega
      rw [ltF_0 f w (n + 1) i z]
      exact ⟨fun j h1 h2 => by omega, fun j h1 h2 => z j (by omega) h2⟩
theorem nxK_cut {K : KV} (hK : WFK K) (p : Int) : (0 ≤ nxK K p ∧ nxK K p ≤ K 7 1) ∧ (∀ j, 0 ≤ j → j < nxK K p → K 3 j < p) ∧ ∀ j, nxK K p ≤ j → j < K 7 1 → p ≤ K 3 j := by
  obtain ⟨h1, h2, h3, h4, h5, h6⟩ := hK
  have e : ((K 7 1).toNat : Int) = K 7 1 := by omega
  have b := ltF_b (K 3) p (K 7 1).toNat 0
  obtain ⟨c1, c2⟩ := ltF_cut (K 3) p (K 7 1).toNat 0 (fun x y q1 q2 q3 => h5 x y q1 q2 (by omega))
  unfold nxK
  exact ⟨by omega, fun j j0 j1 => c1 j j0 (by omega), fun j j0 j1 => Int.not_lt.mp (c2 j (by omega) (by omega))⟩
theorem WFK_insA {K : KV} (hK : WFK K) {p a u : Int} (hn : K 7 1 < 6) (hp : 1 ≤ p ∧ p ≤ K 7 0) (ha : 0 ≤ a ∧ a ≤ 500) (hu : 0 ≤ u ∧ u ≤ 9) (hx : axK K p = -1) : WFK (insAK K (nxK K p) p a u) := by
  obtain ⟨⟨n0, n1⟩, c1, c2⟩ := nxK_cut hK p
  have hne : ∀ j, 0 ≤ j → j < K 7 1 → K 3 j ≠ p := by
    rcases axK_of K p hK.2.1.1 with ⟨_, b⟩ | ⟨a, _, _⟩
    · exact b
    · omega
  obtain ⟨h1, h2, h3, h4, h5, h6⟩ := hK
  generalize nxK K p = x at *
  refine ⟨h1, ?_, h3, ?_, ?_, h6⟩
  · show 0 ≤ K 7 1 + 1 ∧ K 7 1 + 1 ≤ 6
    omega
  · intro j j0 j1
    have j1 : j < K 7 1 + 1 := j1
    show (1 ≤ insM (K 3) x p j ∧ insM (K 3) x p j ≤ K 7 0) ∧ (0 ≤ insM (K 4) x a j ∧ insM (K 4) x a j ≤ 500) ∧ (0 ≤ insM (K 5) x u j ∧ insM (K 5) x u j ≤ 9)
    unfold insM
    by_cases b : j < x
    · simp only [if_pos b]
      exact h4 j j0 (by omega)
    · simp only [if_neg b]
      by_cases b2 : j = x
      · simp only [if_pos b2]
        exact ⟨hp, ha, hu⟩
      · simp only [if_neg b2]
        exact h4 (j - 1) (by omega) (by omega)
  · intro y z y0 yz z1
    have z1 : z < K 7 1 + 1 := z1
    show insM (K 3) x p y < insM (K 3) x p z
    unfold insM
    by_cases a1 : y < x
    · rw [if_pos a1]
      have q1 := c1 y y0 a1
      by_cases a2 : z < x
      · rw [if_pos a2]
        exact h5 y z y0 yz (by omega)
      · rw [if_neg a2]
        by_cases a3 : z = x
        · rw [if_pos a3]
          exact q1
        · rw [if_neg a3]
          have q2 := c2 (z - 1) (by omega) (by omega)
          omega
    · rw [if_neg a1, if_neg (show ¬ z < x by omega)]
      by_cases a3 : y = x
      · rw [if_pos a3, if_neg (show ¬ z = x by omega)]
        have q2 := c2 (z - 1) (by omega) (by omega)
        have q3 := hne (z - 1) (by omega) (by omega)
        omega
      · rw [if_neg a3, if_neg (show ¬ z = x by omega)]
        exact h5 (y - 1) (z - 1) (by omega) (by omega) (by omega)
def setLK (K : KV) (i w v : Int) : KV := fun q => if (q : Int) = w then setM (K q) i v else K q
def setSK (K : KV) (w v : Int) : KV := fun q => match q with
  | 6 => setM (K 6) w v
  | q => K q
theorem WFK_setL {K : KV} (hK : WFK K) {i w v : Int} (hi : 0 ≤ i ∧ i < K 7 0) (hw : (w = 0 ∧ 1 ≤ v ∧ v ≤ 99) ∨ (w = 1 ∧ 0 ≤ v ∧ v ≤ 2) ∨ (w = 2 ∧ 0 ≤ v ∧ v ≤ 20)) : WFK (setLK K i w v) := by
  obtain ⟨h1, h2, h3, h4, h5, h6⟩ := hK
  have e : ∀ q : Nat, 2 < q → setLK K i w v q = K q := fun q hq => if_neg (by omega)
  unfold WFK
  rw [e 7 (by omega), e 3 (by omega), e 4 (by omega), e 5 (by omega), e 6 (by omega)]
  refine ⟨h1, h2, fun j j0 j1 => ?_, h4, h5, h6⟩
  have g := h3 j j0 j1
  have r : ∀ q : Nat, setLK K i w v q j = if (q : Int) = w ∧ j = i then v else K q j := fun q => by
    unfold setLK setM
    by_cases a : (q : Int) = w
    · rw [if_pos a]
      by_cases b : j = i
      · rw [if_pos b, if_pos ⟨a, b⟩]
      · rw [if_neg b, if_neg (fun e => b e.2)]
    · rw [if_neg a, if_neg (fun e => a e.1)]
  rw [r 0, r 1, r 2]
  refine ⟨?_, ?_, ?_⟩
  · split <;> omega
  · split <;> omega
  · split <;> omega
theorem WFK_setS {K : KV} (hK : WFK K) {w v : Int} (hv : 0 ≤ v ∧ v ≤ 50) : WFK (setSK K w v) := by
  obtain ⟨h1, h2, h3, h4, h5, h6⟩ := hK
  refine ⟨h1, h2, h3, h4, h5, fun j j0 j1 => ?_⟩
  show 0 ≤ setM (K 6) w v j ∧ setM (K 6) w v j ≤ 50
  unfold setM
  split
  · exact hv
  · exact h6 j j0 j1
theorem WFK_take {A B : KV} (hA : WFK A) (hB : WFK B) : WFK (takeK A B) := by
  obtain ⟨h1, h2, h3, h4, h5, h6⟩ := hA
  exact ⟨h1, h2, h3, h4, h5, hB.2.2.2.2.2⟩
end
section
/-! THE CLASS: its changes and plain answers -/
theorem t_X4_isWithin {d : Nat} (hd : 1 ≤ d) {σ : Sto} {Q : Post} {x a b : Int} (hx : inR x) (ha : inR a) (hb : inR b) (h1 : a ≤ x ∧ x ≤ b → Q (some (.inl 1)) σ) (h0 : ¬ (a ≤ x ∧ x ≤ b) → Q (some (.inl 0)) σ) : WPd d m_X4_isWithin [.inl x, .inl a, .inl b] σ Q := by
  obtain ⟨d, rfl⟩ : ∃ k, d = k + 1 := ⟨d - 1, by omega⟩
  intro P hP
  (refine go (t := tb_X4_isWithin) (WPd_mono d) hP 20 [] ?_; (conv => whnf); (repeat' (first | (refine ⟨fun _ => ?_, fun _ => ?_⟩ <;> first | (exfalso; omega) | (conv => whnf)) | (refine ⟨by omega, ?_⟩; conv => whnf) | (intro _; conv => whnf))))
  all_goals first | exact h1 (by omega) | exact h0 (by omega)
theorem t_X2_forget {d : Nat} (hd : 1 ≤ d) {σ : Sto} {Q : Post} (h : ∀ σ', σ' 3 0 12 = 0 → σ' 3 0 13 = 0 → σ' 3 0 14 = -1 → (∀ k i, k ≠ 3 → σ' k i = σ k i) → Q none σ') : WPd d m_X2_forget [.inr (3, 0)] σ Q := by
  obtain ⟨d, rfl⟩ : ∃ k, d = k + 1 := ⟨d - 1, by omega⟩
  intro P hP
  (refine go (t := tb_X2_forget) (WPd_mono d) hP 20 [] ?_; (conv => whnf); (repeat' (first | (refine ⟨fun _ => ?_, fun _ => ?_⟩ <;> first | (exfalso; omega) | (conv => whnf)) | (refine ⟨by omega, ?_⟩; conv => whnf) | (intro _; conv => whnf))))
  ((repeat ((try simp only [setR_same, setR_nk, upS_setR, cpS_setR, setR_setR, ne_eq, Nat.reduceEqDiff, not_false_eq_true, Int.reduceEq, ↓reduceIte]); refine ⟨by omega, ?_⟩; ((conv => whnf); (repeat' (first | (refine ⟨fun _ => ?_, fun _ => ?_⟩ <;> first | (exfalso; omega) | (conv => whnf)) | (refine ⟨by omega, ?_⟩; conv => whnf) | (intro _; conv => whnf)))))); (try simp only [setR_same, setR_nk, upS_setR, cpS_setR, setR_setR, ne_eq, Nat.reduceEqDiff, not_false_eq_true, Int.reduceEq, ↓reduceIte]))
  refine h _ ?_ ?_ ?_ (fun k i hk => setR_nk hk)
  all_goals (try simp only [setR_same, setR_nk, upS_setR, cpS_setR, setR_setR, ne_eq, Nat.reduceEqDiff, not_false_eq_true, Int.reduceEq, ↓reduceIte])
theorem t_X4_beginChange {d : Nat} (hd : 4 ≤ d) {σ : Sto} {Q : Post} {h : Int} {HK : Int → KV} (hh : HistR σ h HK) (hw : WFK (vwC σ 0)) (hq : ∀ σ', HistR σ' (min 6 (h + 1)) (pushH h HK (vwC σ 0)) → σ' 3 0 12 = 0 → σ' 3 0 13 = 0 → σ' 3 0 14 = -1 → (∀ k i, k ≠ 1 → k ≠ 3 → ¬ (16 ≤ k ∧ k ≤ 23 ∧ 2 ≤ i) → σ' k i = σ k i) → Q none σ') : WPd d m_X4_beginChange [.inr (0, 0)] σ Q := by
  obtain ⟨d, rfl⟩ : ∃ k, d = k + 1 := ⟨d - 1, by omega⟩
  intro P hP
  (refine go (t := tb_X4_beginChange) (WPd_mono d) hP 20 [] ?_; (conv => whnf); (repeat' (first | (refine ⟨fun _ => ?_, fun _ => ?_⟩ <;> first | (exfalso; omega) | (conv => whnf)) | (refine ⟨by omega, ?_⟩; conv => whnf) | (intro _; conv => whnf))))
  refine t_X1_keep (by omega) hh.2.2.1 (by rw [hh.1]; exact hh.2.1) hw.1 hw.2.1 (fun σ1 e1 e2 e3 o1 => ?_)
  ((conv => whnf); (repeat' (first | (refine ⟨fun _ => ?_, fun _ => ?_⟩ <;> first | (exfalso; omega) | (conv => whnf)) | (refine ⟨by omega, ?_⟩; conv => whnf) | (intro _; conv => whnf))))
  refine t_X2_forget (by omega) (fun σ2 f1 f2 f3 o2 => ?_)
  ((conv => whnf); (repeat' (first | (refine ⟨fun _ => ?_, fun _ => ?_⟩ <;> first | (exfalso; omega) | (conv => whnf)) | (refine ⟨by omega, ?_⟩; conv => whnf) | (intro _; conv => whnf))))
  have hp := HistR_push hh hw e1 e2 e3 o1
  refine hq σ2 (HistR_off hp (fun k i hk => o2 k i (by omega))) f1 f2 f3 (fun k i h1 h2 h3 => ?_)
  rw [o2 k i h2, o1 k i h1 (by have := hh.2.2.1; omega)]
theorem t_X4_isLayer {d : Nat} (hd : 2 ≤ d) {σ : Sto} {Q : Post} {x : Int} (hx : inR x) (hn : 0 ≤ σ 16 0 7 ∧ σ 16 0 7 ≤ 50) (h1 : 0 ≤ x ∧ x < σ 16 0 7 → Q (some (.inl 1)) σ) (h0 : ¬ (0 ≤ x ∧ x < σ 16 0 7) → Q (some (.inl 0)) σ) : WPd d m_X4_isLayer [.inr (0, 0), .inl x] σ Q := by
  obtain ⟨d, rfl⟩ : ∃ k, d = k + 1 := ⟨d - 1, by omega⟩
  intro P hP
  (refine go (t := tb_X4_isLayer) (WPd_mono d) hP 20 [] ?_; (conv => whnf); (repeat' (first | (refine ⟨fun _ => ?_, fun _ => ?_⟩ <;> first | (exfalso; omega) | (conv => whnf)) | (refine ⟨by omega, ?_⟩; conv => whnf) | (intro _; conv => whnf))))
  refine t_X4_isWithin (by omega) hx (by omega) (by omega) (fun q => ?_) (fun q => ?_)
  · ((conv => whnf); (repeat' (first | (refine ⟨fun _ => ?_, fun _ => ?_⟩ <;> first | (exfalso; omega) | (conv => whnf)) | (refine ⟨by omega, ?_⟩; conv => whnf) | (intro _; conv => whnf))))
    exact h1 (by omega)
  · ((conv => whnf); (repeat' (first | (refine ⟨fun _ => ?_, fun _ => ?_⟩ <;> first | (exfalso; omega) | (conv => whnf)) | (refine ⟨by omega, ?_⟩; conv => whnf) | (intro _; conv => whnf))))
    exact h0 (by omega)
theorem t_X4_isPlace {d : Nat} (hd : 2 ≤ d) {σ : Sto} {Q : Post} {x : Int} (hx : inR x) (hn : 0 ≤ σ 16 0 7 ∧ σ 16 0 7 ≤ 50) (h1 : 0 ≤ x ∧ x ≤ σ 16 0 7 → Q (some (.inl 1)) σ) (h0 : ¬ (0 ≤ x ∧ x ≤ σ 16 0 7) → Q (some (.inl 0)) σ) : WPd d m_X4_isPlace [.inr (0, 0), .inl x] σ Q := by
  obtain ⟨d, rfl⟩ : ∃ k, d = k + 1 := ⟨d - 1, by omega⟩
  intro P hP
  (refine go (t := tb_X4_isPlace) (WPd_mono d) hP 20 [] ?_; (conv => whnf); (repeat' (first | (refine ⟨fun _ => ?_, fun _ => ?_⟩ <;> first | (exfalso; omega) | (conv => whnf)) | (refine ⟨by omega, ?_⟩; conv => whnf) | (intro _; conv => whnf))))
  refine t_X4_isWithin (by omega) hx (by omega) (by omega) (fun q => ?_) (fun q => ?_)
  · ((conv => whnf); (repeat' (first | (refine ⟨fun _ => ?_, fun _ => ?_⟩ <;> first | (exfalso; omega) | (conv => whnf)) | (refine ⟨by omega, ?_⟩; conv => whnf) | (intro _; conv => whnf))))
    exact h1 (by omega)
  · ((conv => whnf); (repeat' (first | (refine ⟨fun _ => ?_, fun _ => ?_⟩ <;> first | (exfalso; omega) | (conv => whnf)) | (refine ⟨by omega, ?_⟩; conv => whnf) | (intro _; conv => whnf))))
    exact h0 (by omega)
theorem t_X4_isAsh {d : Nat} (hd : 2 ≤ d) {σ : Sto} {Q : Post} {x : Int} (hx : inR x) (hn : 0 ≤ σ 16 0 8 ∧ σ 16 0 8 ≤ 6) (h1 : 0 ≤ x ∧ x < σ 16 0 8 → Q (some (.inl 1)) σ) (h0 : ¬ (0 ≤ x ∧ x < σ 16 0 8) → Q (some (.inl 0)) σ) : WPd d m_X4_isAsh [.inr (0, 0), .inl x] σ Q := by
  obtain ⟨d, rfl⟩ : ∃ k, d = k + 1 := ⟨d - 1, by omega⟩
  intro P hP
  (refine go (t := tb_X4_isAsh) (WPd_mono d) hP 20 [] ?_; (conv => whnf); (repeat' (first | (refine ⟨fun _ => ?_, fun _ => ?_⟩ <;> first | (exfalso; omega) | (conv => whnf)) | (refine ⟨by omega, ?_⟩; conv => whnf) | (intro _; conv => whnf))))
  refine t_X4_isWithin (by omega) hx (by omega) (by omega) (fun q => ?_) (fun q => ?_)
  · ((conv => whnf); (repeat' (first | (refine ⟨fun _ => ?_, fun _ => ?_⟩ <;> first | (exfalso; omega) | (conv => whnf)) | (refine ⟨by omega, ?_⟩; conv => whnf) | (intro _; conv => whnf))))
    exact h1 (by omega)
  · ((conv => whnf); (repeat' (first | (refine ⟨fun _ => ?_, fun _ => ?_⟩ <;> first | (exfalso; omega) | (conv => whnf)) | (refine ⟨by omega, ?_⟩; conv => whnf) | (intro _; conv => whnf))))
    exact h0 (by omega)
theorem t_X4_isAshOfRange {d : Nat} (hd : 2 ≤ d) {σ : Sto} {Q : Post} {p a u : Int} (hp : inR p) (ha : inR a) (hu : inR u) (hn : 0 ≤ σ 16 0 7 ∧ σ 16 0 7 ≤ 50) (h1 : (1 ≤ p ∧ p ≤ σ 16 0 7) ∧ (0 ≤ a ∧ a ≤ 500) ∧ (0 ≤ u ∧ u ≤ 9) → Q (some (.inl 1)) σ) (h0 : ¬ ((1 ≤ p ∧ p ≤ σ 16 0 7) ∧ (0 ≤ a ∧ a ≤ 500) ∧ (0 ≤ u ∧ u ≤ 9)) → Q (some (.inl 0)) σ) : WPd d m_X4_isAshOfRange [.inr (0, 0), .inl p, .inl a, .inl u] σ Q := by
  obtain ⟨d, rfl⟩ : ∃ k, d = k + 1 := ⟨d - 1, by omega⟩
  intro P hP
  (refine go (t := tb_X4_isAshOfRange) (WPd_mono d) hP 40 [] ?_; (conv => whnf); (repeat' (first | (refine ⟨fun _ => ?_, fun _ => ?_⟩ <;> first | (exfalso; omega) | (conv => whnf)) | (refine ⟨by omega, ?_⟩; conv => whnf) | (intro _; conv => whnf))))
  refine t_X4_isWithin (by omega) hp (by omega) (by omega) (fun q => ?_) (fun q => ?_)
  · ((conv => whnf); (repeat' (first | (refine ⟨fun _ => ?_, fun _ => ?_⟩ <;> first | (exfalso; omega) | (conv => whnf)) | (refine ⟨by omega, ?_⟩; conv => whnf) | (intro _; conv => whnf))))
    refine t_X4_isWithin (by omega) ha (by omega) (by omega) (fun q => ?_) (fun q => ?_)
    · ((conv => whnf); (repeat' (first | (refine ⟨fun _ => ?_, fun _ => ?_⟩ <;> first | (exfalso; omega) | (conv => whnf)) | (refine ⟨by omega, ?_⟩; conv => whnf) | (intro _; conv => whnf))))
      refine t_X4_isWithin (by omega) hu (by omega) (by omega) (fun q => ?_) (fun q => ?_)
      · ((conv => whnf); (repeat' (first | (refine ⟨fun _ => ?_, fun _ => ?_⟩ <;> first | (exfalso; omega) | (conv => whnf)) | (refine ⟨by omega, ?_⟩; conv => whnf) | (intro _; conv => whnf))))
        exact h1 (by omega)
      · ((conv => whnf); (repeat' (first | (refine ⟨fun _ => ?_, fun _ => ?_⟩ <;> first | (exfalso; omega) | (conv => whnf)) | (refine ⟨by omega, ?_⟩; conv => whnf) | (intro _; conv => whnf))))
        exact h0 (by omega)
    · ((conv => whnf); (repeat' (first | (refine ⟨fun _ => ?_, fun _ => ?_⟩ <;> first | (exfalso; omega) | (conv => whnf)) | (refine ⟨by omega, ?_⟩; conv => whnf) | (intro _; conv => whnf))))
      exact h0 (by omega)
  · ((conv => whnf); (repeat' (first | (refine ⟨fun _ => ?_, fun _ => ?_⟩ <;> first | (exfalso; omega) | (conv => whnf)) | (refine ⟨by omega, ?_⟩; conv => whnf) | (intro _; conv => whnf))))
    exact h0 (by omega)
def frC (σ σ' : Sto) : Prop := ∀ k i, 26 ≤ k → σ' k i = σ k i
theorem ClassR_chg {σ σ1 σ2 : Sto} {h' : Int} {HK' : Int → KV} {tl : Int} {tx : Int → Int} {K' : KV} (g1 : HistR σ1 h' HK') (g2 : σ1 3 0 12 = 0) (g3 : σ1 3 0 13 = 0) (g4 : σ1 3 0 14 = -1) (o1 : ∀ k i, k ≠ 1 → k ≠ 3 → ¬ (16 ≤ k ∧ k ≤ 23 ∧ 2 ≤ i) → σ1 k i = σ k i) (o2 : offC 0 σ1 σ2) (htx : TxtR σ tl tx) (e2 : vwC σ2 0 = K') (hw : WFK K') : ClassR σ2 K' h' HK' tl tx ∧ frC σ σ2 := by
  refine ⟨⟨e2, hw, HistR_off g1 (fun k i hk => o2 k i (by omega)), TxtR_off htx (fun k i hk => ?_), RecOk_0 ?_ ?_ ?_⟩, fun k i hk => ?_⟩
  · rw [o2 k i (by omega), o1 k i (by omega) (by omega) (by omega)]
  · rw [o2 3 0 (by omega)]
    exact g2
  · rw [o2 3 0 (by omega)]
    exact g3
  · rw [o2 3 0 (by omega)]
    exact g4
  · rw [o2 k i (by omega), o1 k i (by omega) (by omega) (by omega)]
theorem vw_in {σ : Sto} {c j : Int} : (0 ≤ j → j < σ 16 c 7 → vwC σ c 0 j = σ 17 c j ∧ vwC σ c 1 j = σ 18 c j ∧ vwC σ c 2 j = σ 19 c j) ∧ (0 ≤ j → j < σ 16 c 8 → vwC σ c 3 j = σ 20 c j ∧ vwC σ c 4 j = σ 21 c j ∧ vwC σ c 5 j = σ 22 c j) ∧ (0 ≤ j → j < 4 → vwC σ c 6 j = σ 23 c j) :=
  ⟨fun h0 h1 => ⟨mask_in h0 h1, mask_in h0 h1, mask_in h0 h1⟩, fun h0 h1 => ⟨mask_in h0 h1, mask_in h0 h1, mask_in h0 h1⟩, fun h0 h1 => mask_in h0 h1⟩
/-- what the start of a change leaves of the core -/
theorem core_kept {σ σ1 : Sto} (o1 : ∀ k i, k ≠ 1 → k ≠ 3 → ¬ (16 ≤ k ∧ k ≤ 23 ∧ 2 ≤ i) → σ1 k i = σ k i) : vwC σ1 0 = vwC σ 0 ∧ ∀ k, 16 ≤ k → k ≤ 23 → σ1 k 0 = σ k 0 := ⟨vwC_cg fun k h1 h2 => o1 k 0 (by omega) (by omega) (by omega), fun k h1 h2 => o1 k 0 (by omega) (by omega) (by omega)⟩
theorem t_X4_addLayer {d : Nat} (hd : 5 ≤ d) {σ : Sto} {Q : Post} {K : KV} {h : Int} {HK : Int → KV} {tl : Int} {tx : Int → Int} {i t k m : Int} (hC : ClassR σ K h HK tl tx) (hi : inR i) (ht : inR t) (hk : inR k) (hm : inR m) (hbad : ¬ ((0 ≤ i ∧ i ≤ K 7 0) ∧ (1 ≤ t ∧ t ≤ 99) ∧ (0 ≤ k ∧ k ≤ 2) ∧ (0 ≤ m ∧ m ≤ 20)) → Q (some (.inl (-1))) σ) (hful : (0 ≤ i ∧ i ≤ K 7 0) ∧ (1 ≤ t ∧ t ≤ 99) ∧ (0 ≤ k ∧ k ≤ 2) ∧ (0 ≤ m ∧ m ≤ 20) → K 7 0 = 50 → Q (some (.inl (-3))) σ) (hok : (0 ≤ i ∧ i ≤ K 7 0) ∧ (1 ≤ t ∧ t ≤ 99) ∧ (0 ≤ k ∧ k ≤ 2) ∧ (0 ≤ m ∧ m ≤ 20) → K 7 0 < 50 → ∀ σ', ClassR σ' (insK K i t k m) (min 6 (h + 1)) (pushH h HK K) tl tx → frC σ σ' → Q (some (.inl (K 7 0 + 1))) σ') : WPd d m_X4_addLayer [.inr (0, 0), .inl i, .inl t, .inl k, .inl m] σ Q := by
  obtain ⟨d, rfl⟩ : ∃ k, d = k + 1 := ⟨d - 1, by omega⟩
  intro P hP
  obtain ⟨rfl, hw, hh, htx, hr⟩ := hC
  have hn := hw.1
  rw [vw_n] at hn hbad hful hok
  (refine go (t := tb_X4_addLayer) (WPd_mono d) hP 60 [] ?_; (conv => whnf); (repeat' (first | (refine ⟨fun _ => ?_, fun _ => ?_⟩ <;> first | (exfalso; omega) | (conv => whnf)) | (refine ⟨by omega, ?_⟩; conv => whnf) | (intro _; conv => whnf))))
  refine t_X4_isWithin (by omega) hi (by omega) (by omega) (fun q1 => ?_) (fun q => ?_)
  · ((conv => whnf); (repeat' (first | (refine ⟨fun _ => ?_, fun _ => ?_⟩ <;> first | (exfalso; omega) | (conv => whnf)) | (refine ⟨by omega, ?_⟩; conv => whnf) | (intro _; conv => whnf))))
    refine t_X4_isWithin (by omega) ht (by omega) (by omega) (fun q2 => ?_) (fun q => ?_)
    · ((conv => whnf); (repeat' (first | (refine ⟨fun _ => ?_, fun _ => ?_⟩ <;> first | (exfalso; omega) | (conv => whnf)) | (refine ⟨by omega, ?_⟩; conv => whnf) | (intro _; conv => whnf))))
      refine t_X4_isWithin (by omega) hk (by omega) (by omega) (fun q3 => ?_) (fun q => ?_)
      · ((conv => whnf); (repeat' (first | (refine ⟨fun _ => ?_, fun _ => ?_⟩ <;> first | (exfalso; omega) | (conv => whnf)) | (refine ⟨by omega, ?_⟩; conv => whnf) | (intro _; conv => whnf))))
        refine t_X4_isWithin (by omega) hm (by omega) (by omega) (fun q4 => ?_) (fun q => ?_)
        · ((conv => whnf); (repeat' (first | (refine ⟨fun _ => ?_, fun _ => ?_⟩ <;> first | (exfalso; omega) | (conv => whnf)) | (refine ⟨by omega, ?_⟩; conv => whnf) | (intro _; conv => whnf))))
          · refine t_X4_beginChange (by omega) hh hw (fun σ1 g1 g2 g3 g4 o1 => ?_)
            have ec : vwC σ1 0 = vwC σ 0 := vwC_cg fun k h1 h2 => o1 k 0 (by omega) (by omega) (by omega)
            have e16 : σ1 16 0 = σ 16 0 := o1 16 0 (by omega) (by omega) (by omega)
            have e20 : σ1 20 0 = σ 20 0 := o1 20 0 (by omega) (by omega) (by omega)
            ((conv => whnf); (repeat' (first | (refine ⟨fun _ => ?_, fun _ => ?_⟩ <;> first | (exfalso; omega) | (conv => whnf)) | (refine ⟨by omega, ?_⟩; conv => whnf) | (intro _; conv => whnf))))
            refine t_X0_insertLayer (by omega) (by rw [e16]; omega) (by rw [e16]; exact hw.2.1) (by rw [e16]; exact q1) ht hk hm (fun j j0 j1 => ?_) (fun σ2 e2 o2 => ?_)
            · rw [e16] at j1
              rw [e20]
              have := (hw.2.2.2.1 j j0 j1).1
              rw [show vwC σ 0 3 j = σ 20 0 j from mask_in j0 j1] at this
              have := hn
              have e7 := vw_n σ 0
              omega
            · rw [ec] at e2
              have e7 : σ2 16 0 7 = σ 16 0 7 + 1 := by
                rw [← vw_n σ2 0, e2]
                rfl
              ((conv => whnf); (repeat' (first | (refine ⟨fun _ => ?_, fun _ => ?_⟩ <;> first | (exfalso; omega) | (conv => whnf)) | (refine ⟨by omega, ?_⟩; conv => whnf) | (intro _; conv => whnf))))
              rw [e7]
              obtain ⟨r1, r2⟩ := ClassR_chg g1 g2 g3 g4 o1 o2 htx e2 (WFK_ins hw (by rw [vw_n]; omega) (by rw [vw_n]; exact q1) q2 q3 q4)
              exact hok ⟨q1, q2, q3, q4⟩ (by omega) σ2 r1 r2
          · exact hful ⟨q1, q2, q3, q4⟩ (by omega)
        · ((conv => whnf); (repeat' (first | (refine ⟨fun _ => ?_, fun _ => ?_⟩ <;> first | (exfalso; omega) | (conv => whnf)) | (refine ⟨by omega, ?_⟩; conv => whnf) | (intro _; conv => whnf))))
          exact hbad (by omega)
      · ((conv => whnf); (repeat' (first | (refine ⟨fun _ => ?_, fun _ => ?_⟩ <;> first | (exfalso; omega) | (conv => whnf)) | (refine ⟨by omega, ?_⟩; conv => whnf) | (intro _; conv => whnf))))
        exact hbad (by omega)
    · ((conv => whnf); (repeat' (first | (refine ⟨fun _ => ?_, fun _ => ?_⟩ <;> first | (exfalso; omega) | (conv => whnf)) | (refine ⟨by omega, ?_⟩; conv => whnf) | (intro _; conv => whnf))))
      exact hbad (by omega)
  · ((conv => whnf); (repeat' (first | (refine ⟨fun _ => ?_, fun _ => ?_⟩ <;> first | (exfalso; omega) | (conv => whnf)) | (refine ⟨by omega, ?_⟩; conv => whnf) | (intro _; conv => whnf))))
    exact hbad (by omega)
theorem t_X4_removeLayer {d : Nat} (hd : 5 ≤ d) {σ : Sto} {Q : Post} {K : KV} {h : Int} {HK : Int → KV} {tl : Int} {tx : Int → Int} {i : Int} (hC : ClassR σ K h HK tl tx) (hi : inR i) (hbad : ¬ (0 ≤ i ∧ i < K 7 0) → Q (some (.inl (-1))) σ) (hok : 0 ≤ i ∧ i < K 7 0 → ∀ σ', ClassR σ' (remK K i) (min 6 (h + 1)) (pushH h HK K) tl tx → frC σ σ' → Q (some (.inl (K 7 0 - 1))) σ') : WPd d m_X4_removeLayer [.inr (0, 0), .inl i] σ Q := by
  obtain ⟨d, rfl⟩ : ∃ k, d = k + 1 := ⟨d - 1, by omega⟩
  intro P hP
  obtain ⟨rfl, hw, hh, htx, hr⟩ := hC
  have hn := hw.1
  rw [vw_n] at hn hbad hok
  (refine go (t := tb_X4_removeLayer) (WPd_mono d) hP 60 [] ?_; (conv => whnf); (repeat' (first | (refine ⟨fun _ => ?_, fun _ => ?_⟩ <;> first | (exfalso; omega) | (conv => whnf)) | (refine ⟨by omega, ?_⟩; conv => whnf) | (intro _; conv => whnf))))
  refine t_X4_isLayer (by omega) hi hn (fun q1 => ?_) (fun q => ?_)
  · ((conv => whnf); (repeat' (first | (refine ⟨fun _ => ?_, fun _ => ?_⟩ <;> first | (exfalso; omega) | (conv => whnf)) | (refine ⟨by omega, ?_⟩; conv => whnf) | (intro _; conv => whnf))))
    refine t_X4_beginChange (by omega) hh hw (fun σ1 g1 g2 g3 g4 o1 => ?_)
    obtain ⟨ec, ek⟩ := core_kept o1
    have e16 := ek 16 (by omega) (by omega)
    have e20 := ek 20 (by omega) (by omega)
    ((conv => whnf); (repeat' (first | (refine ⟨fun _ => ?_, fun _ => ?_⟩ <;> first | (exfalso; omega) | (conv => whnf)) | (refine ⟨by omega, ?_⟩; conv => whnf) | (intro _; conv => whnf))))
    refine t_X0_deleteLayer (by omega) (by rw [e16]; exact hn) (by rw [e16]; exact hw.2.1) (by rw [e16]; exact q1) (fun j j0 j1 => ?_) (fun σ2 e2 o2 => ?_)
    · rw [e16] at j1
      rw [e20]
      have a := (hw.2.2.2.1 j j0 j1).1
      rw [(vw_in.2.1 j0 j1).1, vw_n] at a
      omega
    · rw [ec] at e2
      have e7 : σ2 16 0 7 = σ 16 0 7 - 1 := by
        rw [← vw_n σ2 0, e2]
        unfold remK
        split <;> rfl
      ((conv => whnf); (repeat' (first | (refine ⟨fun _ => ?_, fun _ => ?_⟩ <;> first | (exfalso; omega) | (conv => whnf)) | (refine ⟨by omega, ?_⟩; conv => whnf) | (intro _; conv => whnf))))
      rw [e7]
      obtain ⟨r1, r2⟩ := ClassR_chg g1 g2 g3 g4 o1 o2 htx e2 (WFK_rem hw (by rw [vw_n]; exact q1))
      exact hok q1 σ2 r1 r2
  · ((conv => whnf); (repeat' (first | (refine ⟨fun _ => ?_, fun _ => ?_⟩ <;> first | (exfalso; omega) | (conv => whnf)) | (refine ⟨by omega, ?_⟩; conv => whnf) | (intro _; conv => whnf))))
    exact hbad q
theorem t_X4_leastProperty {d : Nat} (hd : 1 ≤ d) {σ : Sto} {Q : Post} {w : Int} (hw : inR w) (h : Q (some (.inl (if w = 0 then 1 else 0))) σ) : WPd d m_X4_leastProperty [.inl w] σ Q := by
  obtain ⟨d, rfl⟩ : ∃ k, d = k + 1 := ⟨d - 1, by omega⟩
  intro P hP
  (refine go (t := tb_X4_leastProperty) (WPd_mono d) hP 20 [] ?_; (conv => whnf); (repeat' (first | (refine ⟨fun _ => ?_, fun _ => ?_⟩ <;> first | (exfalso; omega) | (conv => whnf)) | (refine ⟨by omega, ?_⟩; conv => whnf) | (intro _; conv => whnf))))
  · rwa [if_neg (by assumption)] at h
  · rwa [if_pos (by assumption)] at h
theorem t_X4_mostProperty {d : Nat} (hd : 1 ≤ d) {σ : Sto} {Q : Post} {w : Int} (hw : inR w) (h : Q (some (.inl (if w = 0 then 99 else if w = 1 then 2 else 20))) σ) : WPd d m_X4_mostProperty [.inl w] σ Q := by
  obtain ⟨d, rfl⟩ : ∃ k, d = k + 1 := ⟨d - 1, by omega⟩
  intro P hP
  (refine go (t := tb_X4_mostProperty) (WPd_mono d) hP 20 [] ?_; (conv => whnf); (repeat' (first | (refine ⟨fun _ => ?_, fun _ => ?_⟩ <;> first | (exfalso; omega) | (conv => whnf)) | (refine ⟨by omega, ?_⟩; conv => whnf) | (intro _; conv => whnf))))
  all_goals first | (rwa [if_pos (by omega)] at h) | (rwa [if_neg (by omega), if_pos (by omega)] at h) | (rwa [if_neg (by omega), if_neg (by omega)] at h)
def lowP (w : Int) : Int := if w = 0 then 1 else 0
def topP (w : Int) : Int := if w = 0 then 99 else if w = 1 then 2 else 20
theorem set_mk {σ : Sto} {i v : Int} {k : Nat} (hk : k = 17 ∨ k = 18 ∨ k = 19) (hi : 0 ≤ i ∧ i < σ 16 0 7) : vwC (upS σ k 0 i v) 0 = setLK (vwC σ 0) i ((k : Int) - 17) v := by
  have key : ∀ f : Int → Int, mask (σ 16 0 7) (fun j' => if j' = i then v else f j') = setM (mask (σ 16 0 7) f) i v := by
    intro f
    funext j
    simp only [mask, setM]
    ((repeat' split) <;> first | rfl | (exfalso; omega) | (congr 1; omega) | omega)
  funext q
  rcases hk with rfl | rfl | rfl <;> unfold vwC setLK <;> (try simp only [setR_same, setR_nk, upS_setR, cpS_setR, setR_setR, ne_eq, Nat.reduceEqDiff, not_false_eq_true, Int.reduceEq, ↓reduceIte]) <;> rcases q with _ | _ | _ | _ | _ | _ | _ | _ | q <;> first | rfl | exact key _ | (rw [if_neg (by omega)]; rfl)
theorem t_X4_setLayer {d : Nat} (hd : 5 ≤ d) {σ : Sto} {Q : Post} {K : KV} {h : Int} {HK : Int → KV} {tl : Int} {tx : Int → Int} {i w v : Int} (hC : ClassR σ K h HK tl tx) (hi : inR i) (hw0 : inR w) (hv : inR v) (hbad : ¬ ((0 ≤ i ∧ i < K 7 0) ∧ (0 ≤ w ∧ w ≤ 2) ∧ (lowP w ≤ v ∧ v ≤ topP w)) → Q (some (.inl (-1))) σ) (hok : (0 ≤ i ∧ i < K 7 0) ∧ (0 ≤ w ∧ w ≤ 2) ∧ (lowP w ≤ v ∧ v ≤ topP w) → ∀ σ', ClassR σ' (setLK K i w v) (min 6 (h + 1)) (pushH h HK K) tl tx → frC σ σ' → Q (some (.inl (K w.toNat i))) σ') : WPd d m_X4_setLayer [.inr (0, 0), .inl i, .inl w, .inl v] σ Q := by
  obtain ⟨d, rfl⟩ : ∃ k, d = k + 1 := ⟨d - 1, by omega⟩
  intro P hP
  obtain ⟨rfl, hw, hh, htx, hr⟩ := hC
  have hn := hw.1
  rw [vw_n] at hn hbad hok
  have bl : 0 ≤ lowP w ∧ lowP w ≤ 1 := by unfold lowP; split <;> omega
  have bt : 2 ≤ topP w ∧ topP w ≤ 99 := by unfold topP; split <;> (try split) <;> omega
  (refine go (t := tb_X4_setLayer) (WPd_mono d) hP 60 [] ?_; (conv => whnf); (repeat' (first | (refine ⟨fun _ => ?_, fun _ => ?_⟩ <;> first | (exfalso; omega) | (conv => whnf)) | (refine ⟨by omega, ?_⟩; conv => whnf) | (intro _; conv => whnf))))
  refine t_X4_isLayer (by omega) hi hn (fun q1 => ?_) (fun q => ?_)
  · ((conv => whnf); (repeat' (first | (refine ⟨fun _ => ?_, fun _ => ?_⟩ <;> first | (exfalso; omega) | (conv => whnf)) | (refine ⟨by omega, ?_⟩; conv => whnf) | (intro _; conv => whnf))))
    refine t_X4_isWithin (by omega) hw0 (by omega) (by omega) (fun q2 => ?_) (fun q => ?_)
    · ((conv => whnf); (repeat' (first | (refine ⟨fun _ => ?_, fun _ => ?_⟩ <;> first | (exfalso; omega) | (conv => whnf)) | (refine ⟨by omega, ?_⟩; conv => whnf) | (intro _; conv => whnf))))
      refine t_X4_leastProperty (by omega) hw0 ?_
      ((conv => whnf); (repeat' (first | (refine ⟨fun _ => ?_, fun _ => ?_⟩ <;> first | (exfalso; omega) | (conv => whnf)) | (refine ⟨by omega, ?_⟩; conv => whnf) | (intro _; conv => whnf))))
      refine t_X4_mostProperty (by omega) hw0 ?_
      ((conv => whnf); (repeat' (first | (refine ⟨fun _ => ?_, fun _ => ?_⟩ <;> first | (exfalso; omega) | (conv => whnf)) | (refine ⟨by omega, ?_⟩; conv => whnf) | (intro _; conv => whnf))))
      refine t_X4_isWithin (by omega) hv (show inR (lowP w) by omega) (show inR (topP w) by omega) (fun q3 => ?_) (fun q => ?_)
      · have q3 : lowP w ≤ v ∧ v ≤ topP w := q3
        have hvv : (w = 0 ∧ 1 ≤ v ∧ v ≤ 99) ∨ (w = 1 ∧ 0 ≤ v ∧ v ≤ 2) ∨ (w = 2 ∧ 0 ≤ v ∧ v ≤ 20) := by
          unfold lowP topP at q3
          rcases (show w = 0 ∨ w = 1 ∨ w = 2 by omega) with e | e | e <;> subst e <;> simp at q3 <;> omega
        have fin : ∀ (k : Nat) (r : Int), (k = 17 ∨ k = 18 ∨ k = 19) → w = (k : Int) - 17 → r = vwC σ 0 w.toNat i → ∀ σ1, HistR σ1 (min 6 (h + 1)) (pushH h HK (vwC σ 0)) → σ1 3 0 12 = 0 → σ1 3 0 13 = 0 → σ1 3 0 14 = -1 → (∀ k i, k ≠ 1 → k ≠ 3 → ¬ (16 ≤ k ∧ k ≤ 23 ∧ 2 ≤ i) → σ1 k i = σ k i) → Q (some (.inl r)) (upS σ1 k 0 i v) := by
          intro k r hk hwk hr0 σ1 g1 g2 g3 g4 o1
          obtain ⟨ec, ek⟩ := core_kept o1
          have e2 := set_mk (σ := σ1) (v := v) hk (by rw [ek 16 (by omega) (by omega)]; exact q1)
          rw [ec, ← hwk] at e2
          obtain ⟨r1, r2⟩ := ClassR_chg g1 g2 g3 g4 o1 (offC.rf.up (by omega)) htx e2 (WFK_setL hw (by rw [vw_n]; exact q1) hvv)
          rw [hr0]
          exact hok ⟨q1, q2, q3⟩ _ r1 r2
        ((conv => whnf); (repeat' (first | (refine ⟨fun _ => ?_, fun _ => ?_⟩ <;> first | (exfalso; omega) | (conv => whnf)) | (refine ⟨by omega, ?_⟩; conv => whnf) | (intro _; conv => whnf))))
        refine t_X0_layerProperties (by omega) q2 (fun e => ?_) (fun e => ?_) (fun e => ?_)
        · ((conv => whnf); (repeat' (first | (refine ⟨fun _ => ?_, fun _ => ?_⟩ <;> first | (exfalso; omega) | (conv => whnf)) | (refine ⟨by omega, ?_⟩; conv => whnf) | (intro _; conv => whnf))))
          refine t_X4_beginChange (by omega) hh hw (fun σ1 g1 g2 g3 g4 o1 => ?_)
          ((conv => whnf); (repeat' (first | (refine ⟨fun _ => ?_, fun _ => ?_⟩ <;> first | (exfalso; omega) | (conv => whnf)) | (refine ⟨by omega, ?_⟩; conv => whnf) | (intro _; conv => whnf))))
          exact fin 17 _ (by omega) (by omega) (by rw [e]; exact (vw_in.1 q1.1 q1.2).1.symm) σ1 g1 g2 g3 g4 o1
        · ((conv => whnf); (repeat' (first | (refine ⟨fun _ => ?_, fun _ => ?_⟩ <;> first | (exfalso; omega) | (conv => whnf)) | (refine ⟨by omega, ?_⟩; conv => whnf) | (intro _; conv => whnf))))
          refine t_X4_beginChange (by omega) hh hw (fun σ1 g1 g2 g3 g4 o1 => ?_)
          ((conv => whnf); (repeat' (first | (refine ⟨fun _ => ?_, fun _ => ?_⟩ <;> first | (exfalso; omega) | (conv => whnf)) | (refine ⟨by omega, ?_⟩; conv => whnf) | (intro _; conv => whnf))))
          exact fin 18 _ (by omega) (by omega) (by rw [e]; exact (vw_in.1 q1.1 q1.2).2.1.symm) σ1 g1 g2 g3 g4 o1
        · ((conv => whnf); (repeat' (first | (refine ⟨fun _ => ?_, fun _ => ?_⟩ <;> first | (exfalso; omega) | (conv => whnf)) | (refine ⟨by omega, ?_⟩; conv => whnf) | (intro _; conv => whnf))))
          refine t_X4_beginChange (by omega) hh hw (fun σ1 g1 g2 g3 g4 o1 => ?_)
          ((conv => whnf); (repeat' (first | (refine ⟨fun _ => ?_, fun _ => ?_⟩ <;> first | (exfalso; omega) | (conv => whnf)) | (refine ⟨by omega, ?_⟩; conv => whnf) | (intro _; conv => whnf))))
          exact fin 19 _ (by omega) (by omega) (by rw [e]; exact (vw_in.1 q1.1 q1.2).2.2.symm) σ1 g1 g2 g3 g4 o1
      · ((conv => whnf); (repeat' (first | (refine ⟨fun _ => ?_, fun _ => ?_⟩ <;> first | (exfalso; omega) | (conv => whnf)) | (refine ⟨by omega, ?_⟩; conv => whnf) | (intro _; conv => whnf))))
        exact hbad (fun e => q e.2.2)
    · ((conv => whnf); (repeat' (first | (refine ⟨fun _ => ?_, fun _ => ?_⟩ <;> first | (exfalso; omega) | (conv => whnf)) | (refine ⟨by omega, ?_⟩; conv => whnf) | (intro _; conv => whnf))))
      exact hbad (fun e => q e.2.1)
  · ((conv => whnf); (repeat' (first | (refine ⟨fun _ => ?_, fun _ => ?_⟩ <;> first | (exfalso; omega) | (conv => whnf)) | (refine ⟨by omega, ?_⟩; conv => whnf) | (intro _; conv => whnf))))
    exact hbad (fun e => q e.1)
end
section
theorem t_X4_addAsh {d : Nat} (hd : 5 ≤ d) {σ : Sto} {Q : Post} {K : KV} {h : Int} {HK : Int → KV} {tl : Int} {tx : Int → Int} {p a u : Int} (hC : ClassR σ K h HK tl tx) (hp : inR p) (ha : inR a) (hu : inR u) (hbad : ¬ ((1 ≤ p ∧ p ≤ K 7 0) ∧ (0 ≤ a ∧ a ≤ 500) ∧ (0 ≤ u ∧ u ≤ 9)) → Q (some (.inl (-1))) σ) (htwo : (1 ≤ p ∧ p ≤ K 7 0) ∧ (0 ≤ a ∧ a ≤ 500) ∧ (0 ≤ u ∧ u ≤ 9) → axK K p ≠ -1 → Q (some (.inl (-2))) σ) (hful : (1 ≤ p ∧ p ≤ K 7 0) ∧ (0 ≤ a ∧ a ≤ 500) ∧ (0 ≤ u ∧ u ≤ 9) → axK K p = -1 → K 7 1 = 6 → Q (some (.inl (-3))) σ) (hok : (1 ≤ p ∧ p ≤ K 7 0) ∧ (0 ≤ a ∧ a ≤ 500) ∧ (0 ≤ u ∧ u ≤ 9) → axK K p = -1 → K 7 1 < 6 → ∀ σ', ClassR σ' (insAK K (nxK K p) p a u) (min 6 (h + 1)) (pushH h HK K) tl tx → frC σ σ' → Q (some (.inl (nxK K p))) σ') : WPd d m_X4_addAsh [.inr (0, 0), .inl p, .inl a, .inl u] σ Q := by
  obtain ⟨d, rfl⟩ : ∃ k, d = k + 1 := ⟨d - 1, by omega⟩
  intro P hP
  obtain ⟨rfl, hw, hh, htx, hr⟩ := hC
  have hn := hw.1
  have hm := hw.2.1
  rw [vw_n] at hn hbad htwo hful hok
  rw [vw_a] at hm hful hok
  have bx := axK_of (vwC σ 0) p hw.2.1.1
  rw [vw_a] at bx
  (refine go (t := tb_X4_addAsh) (WPd_mono d) hP 60 [] ?_; (conv => whnf); (repeat' (first | (refine ⟨fun _ => ?_, fun _ => ?_⟩ <;> first | (exfalso; omega) | (conv => whnf)) | (refine ⟨by omega, ?_⟩; conv => whnf) | (intro _; conv => whnf))))
  refine t_X4_isAshOfRange (by omega) hp ha hu hn (fun q1 => ?_) (fun q => ?_)
  · ((conv => whnf); (repeat' (first | (refine ⟨fun _ => ?_, fun _ => ?_⟩ <;> first | (exfalso; omega) | (conv => whnf)) | (refine ⟨by omega, ?_⟩; conv => whnf) | (intro _; conv => whnf))))
    refine t_X0_ashAt (by omega) hp hm ?_
    rw [ax_vw]
    ((conv => whnf); (repeat' (first | (refine ⟨fun _ => ?_, fun _ => ?_⟩ <;> first | (exfalso; omega) | (conv => whnf)) | (refine ⟨by omega, ?_⟩; conv => whnf) | (intro _; conv => whnf))))
    · refine t_X4_beginChange (by omega) hh hw (fun σ1 g1 g2 g3 g4 o1 => ?_)
      obtain ⟨ec, ek⟩ := core_kept o1
      have e16 := ek 16 (by omega) (by omega)
      ((conv => whnf); (repeat' (first | (refine ⟨fun _ => ?_, fun _ => ?_⟩ <;> first | (exfalso; omega) | (conv => whnf)) | (refine ⟨by omega, ?_⟩; conv => whnf) | (intro _; conv => whnf))))
      refine t_X0_insertAsh (by omega) (by rw [e16]; omega) hp ha hu (fun σ2 e2 o2 => ?_)
      rw [ec] at e2 ⊢
      obtain ⟨r1, r2⟩ := ClassR_chg g1 g2 g3 g4 o1 o2 htx e2 (WFK_insA hw (by rw [vw_a]; omega) (by rw [vw_n]; exact q1.1) q1.2.1 q1.2.2 (by omega))
      ((conv => whnf); (repeat' (first | (refine ⟨fun _ => ?_, fun _ => ?_⟩ <;> first | (exfalso; omega) | (conv => whnf)) | (refine ⟨by omega, ?_⟩; conv => whnf) | (intro _; conv => whnf))))
      exact hok q1 (by omega) (by omega) σ2 r1 r2
    · exact hful q1 (by omega) (by omega)
    · exact htwo q1 (by omega)
  · ((conv => whnf); (repeat' (first | (refine ⟨fun _ => ?_, fun _ => ?_⟩ <;> first | (exfalso; omega) | (conv => whnf)) | (refine ⟨by omega, ?_⟩; conv => whnf) | (intro _; conv => whnf))))
    exact hbad q
theorem t_X4_removeAsh {d : Nat} (hd : 5 ≤ d) {σ : Sto} {Q : Post} {K : KV} {h : Int} {HK : Int → KV} {tl : Int} {tx : Int → Int} {x : Int} (hC : ClassR σ K h HK tl tx) (hx : inR x) (hbad : ¬ (0 ≤ x ∧ x < K 7 1) → Q (some (.inl (-1))) σ) (hok : 0 ≤ x ∧ x < K 7 1 → ∀ σ', ClassR σ' (delAK K x) (min 6 (h + 1)) (pushH h HK K) tl tx → frC σ σ' → Q (some (.inl (K 7 1 - 1))) σ') : WPd d m_X4_removeAsh [.inr (0, 0), .inl x] σ Q := by
  obtain ⟨d, rfl⟩ : ∃ k, d = k + 1 := ⟨d - 1, by omega⟩
  intro P hP
  obtain ⟨rfl, hw, hh, htx, hr⟩ := hC
  have hm := hw.2.1
  rw [vw_a] at hm hbad hok
  (refine go (t := tb_X4_removeAsh) (WPd_mono d) hP 60 [] ?_; (conv => whnf); (repeat' (first | (refine ⟨fun _ => ?_, fun _ => ?_⟩ <;> first | (exfalso; omega) | (conv => whnf)) | (refine ⟨by omega, ?_⟩; conv => whnf) | (intro _; conv => whnf))))
  refine t_X4_isAsh (by omega) hx hm (fun q1 => ?_) (fun q => ?_)
  · ((conv => whnf); (repeat' (first | (refine ⟨fun _ => ?_, fun _ => ?_⟩ <;> first | (exfalso; omega) | (conv => whnf)) | (refine ⟨by omega, ?_⟩; conv => whnf) | (intro _; conv => whnf))))
    refine t_X4_beginChange (by omega) hh hw (fun σ1 g1 g2 g3 g4 o1 => ?_)
    obtain ⟨ec, ek⟩ := core_kept o1
    have e16 := ek 16 (by omega) (by omega)
    ((conv => whnf); (repeat' (first | (refine ⟨fun _ => ?_, fun _ => ?_⟩ <;> first | (exfalso; omega) | (conv => whnf)) | (refine ⟨by omega, ?_⟩; conv => whnf) | (intro _; conv => whnf))))
    refine t_X0_deleteAsh (by omega) (by rw [e16]; exact hm) (by rw [e16]; exact q1) (fun σ2 e2 o2 _ _ => ?_)
    rw [ec] at e2
    have e7 : σ2 16 0 8 = σ 16 0 8 - 1 := by
      rw [← vw_a σ2 0, e2]
      rfl
    obtain ⟨r1, r2⟩ := ClassR_chg g1 g2 g3 g4 o1 o2 htx e2 (WFK_delA hw (by rw [vw_a]; exact q1))
    ((conv => whnf); (repeat' (first | (refine ⟨fun _ => ?_, fun _ => ?_⟩ <;> first | (exfalso; omega) | (conv => whnf)) | (refine ⟨by omega, ?_⟩; conv => whnf) | (intro _; conv => whnf))))
    rw [e7]
    exact hok q1 σ2 r1 r2
  · ((conv => whnf); (repeat' (first | (refine ⟨fun _ => ?_, fun _ => ?_⟩ <;> first | (exfalso; omega) | (conv => whnf)) | (refine ⟨by omega, ?_⟩; conv => whnf) | (intro _; conv => whnf))))
    exact hbad q
theorem set_mkS {σ : Sto} {w v : Int} (hw : 0 ≤ w ∧ w < 4) : vwC (upS σ 23 0 w v) 0 = setSK (vwC σ 0) w v := by
  have key : ∀ f : Int → Int, mask 4 (fun j' => if j' = w then v else f j') = setM (mask 4 f) w v := by
    intro f
    funext j
    simp only [mask, setM]
    ((repeat' split) <;> first | rfl | (exfalso; omega) | (congr 1; omega) | omega)
  funext q
  unfold vwC setSK
  (try simp only [setR_same, setR_nk, upS_setR, cpS_setR, setR_setR, ne_eq, Nat.reduceEqDiff, not_false_eq_true, Int.reduceEq, ↓reduceIte])
  rcases q with _ | _ | _ | _ | _ | _ | _ | _ | q <;> first | rfl | exact key _
theorem t_X4_set {d : Nat} (hd : 5 ≤ d) {σ : Sto} {Q : Post} {K : KV} {h : Int} {HK : Int → KV} {tl : Int} {tx : Int → Int} {w v : Int} (hC : ClassR σ K h HK tl tx) (hw0 : inR w) (hv : inR v) (hbad : ¬ ((0 ≤ w ∧ w ≤ 3) ∧ (0 ≤ v ∧ v ≤ 50)) → Q (some (.inl (-1))) σ) (hok : (0 ≤ w ∧ w ≤ 3) ∧ (0 ≤ v ∧ v ≤ 50) → ∀ σ', ClassR σ' (setSK K w v) (min 6 (h + 1)) (pushH h HK K) tl tx → frC σ σ' → Q (some (.inl (K 6 w))) σ') : WPd d m_X4_set [.inr (0, 0), .inl w, .inl v] σ Q := by
  obtain ⟨d, rfl⟩ : ∃ k, d = k + 1 := ⟨d - 1, by omega⟩
  intro P hP
  obtain ⟨rfl, hw, hh, htx, hr⟩ := hC
  (refine go (t := tb_X4_set) (WPd_mono d) hP 60 [] ?_; (conv => whnf); (repeat' (first | (refine ⟨fun _ => ?_, fun _ => ?_⟩ <;> first | (exfalso; omega) | (conv => whnf)) | (refine ⟨by omega, ?_⟩; conv => whnf) | (intro _; conv => whnf))))
  refine t_X4_isWithin (by omega) hw0 (by omega) (by omega) (fun q1 => ?_) (fun q => ?_)
  · ((conv => whnf); (repeat' (first | (refine ⟨fun _ => ?_, fun _ => ?_⟩ <;> first | (exfalso; omega) | (conv => whnf)) | (refine ⟨by omega, ?_⟩; conv => whnf) | (intro _; conv => whnf))))
    refine t_X4_isWithin (by omega) hv (by omega) (by omega) (fun q2 => ?_) (fun q => ?_)
    · ((conv => whnf); (repeat' (first | (refine ⟨fun _ => ?_, fun _ => ?_⟩ <;> first | (exfalso; omega) | (conv => whnf)) | (refine ⟨by omega, ?_⟩; conv => whnf) | (intro _; conv => whnf))))
      refine t_X4_beginChange (by omega) hh hw (fun σ1 g1 g2 g3 g4 o1 => ?_)
      obtain ⟨ec, ek⟩ := core_kept o1
      have e2 := set_mkS (σ := σ1) (w := w) (v := v) (by omega)
      rw [ec] at e2
      obtain ⟨r1, r2⟩ := ClassR_chg g1 g2 g3 g4 o1 (offC.rf.up (by omega)) htx e2 (WFK_setS hw q2)
      ((conv => whnf); (repeat' (first | (refine ⟨fun _ => ?_, fun _ => ?_⟩ <;> first | (exfalso; omega) | (conv => whnf)) | (refine ⟨by omega, ?_⟩; conv => whnf) | (intro _; conv => whnf))))
      rw [← (vw_in (σ := σ) (c := 0)).2.2 q1.1 (by omega)]
      exact hok ⟨q1, q2⟩ _ r1 r2
    · ((conv => whnf); (repeat' (first | (refine ⟨fun _ => ?_, fun _ => ?_⟩ <;> first | (exfalso; omega) | (conv => whnf)) | (refine ⟨by omega, ?_⟩; conv => whnf) | (intro _; conv => whnf))))
      exact hbad (fun e => q e.2)
  · ((conv => whnf); (repeat' (first | (refine ⟨fun _ => ?_, fun _ => ?_⟩ <;> first | (exfalso; omega) | (conv => whnf)) | (refine ⟨by omega, ?_⟩; conv => whnf) | (intro _; conv => whnf))))
    exact hbad (fun e => q e.1)
theorem t_X4_undo {d : Nat} (hd : 5 ≤ d) {σ : Sto} {Q : Post} {K : KV} {h : Int} {HK : Int → KV} {tl : Int} {tx : Int → Int} (hC : ClassR σ K h HK tl tx) (hbad : h = 0 → Q (some (.inl (-2))) σ) (hok : 0 < h → ∀ σ', ClassR σ' (HK (h - 1)) (h - 1) HK tl tx → frC σ σ' → Q (some (.inl (h - 1))) σ') : WPd d m_X4_undo [.inr (0, 0)] σ Q := by
  obtain ⟨d, rfl⟩ : ∃ k, d = k + 1 := ⟨d - 1, by omega⟩
  intro P hP
  obtain ⟨rfl, hw, hh, htx, hr⟩ := hC
  have hh0 := hh
  obtain ⟨h1, h2, h3, h4⟩ := hh0
  (refine go (t := tb_X4_undo) (WPd_mono d) hP 60 [] ?_; (conv => whnf); (repeat' (first | (refine ⟨fun _ => ?_, fun _ => ?_⟩ <;> first | (exfalso; omega) | (conv => whnf)) | (refine ⟨by omega, ?_⟩; conv => whnf) | (intro _; conv => whnf))))
  · have hpop := fun (x : Int) (hx : x = if σ 1 0 1 = 0 then 5 else σ 1 0 1 - 1) (σ' : Sto) => HistR_pop (σ' := σ') hh (by omega) hx
    refine t_X1_restore (by omega) h3 (by omega) (fun x hx => ?_) (fun σ1 x hx e1 e2 e3 o1 => ?_)
    · have hx2 : x = (σ 1 0 1 - 1) % 6 := by
        rw [hx]
        split <;> omega
      obtain ⟨g1, g2⟩ := h4 (h - 1) (by omega) (by omega)
      rw [show (2 + (σ 1 0 1 - h + (h - 1)) % 6) = 2 + x by omega] at g1
      rw [← g1] at g2
      exact ⟨g2.1, g2.2.1⟩
    · obtain ⟨r1, r2, r3⟩ := hpop x hx σ1 e1 e2 o1
      ((conv => whnf); (repeat' (first | (refine ⟨fun _ => ?_, fun _ => ?_⟩ <;> first | (exfalso; omega) | (conv => whnf)) | (refine ⟨by omega, ?_⟩; conv => whnf) | (intro _; conv => whnf))))
      refine t_X2_forget (by omega) (fun σ2 f1 f2 f3 o2 => ?_)
      have e7 : σ2 1 0 2 = h - 1 := by rw [o2 1 0 (by omega), e2, h1]
      ((conv => whnf); (repeat' (first | (refine ⟨fun _ => ?_, fun _ => ?_⟩ <;> first | (exfalso; omega) | (conv => whnf)) | (refine ⟨by omega, ?_⟩; conv => whnf) | (intro _; conv => whnf))))
      rw [e7]
      refine hok (by omega) σ2 ⟨?_, r3, HistR_off r1 (fun k i hk => o2 k i (by omega)), TxtR_off htx (fun k i hk => ?_), RecOk_0 f1 f2 f3⟩ (fun k i hk => ?_)
      · rw [vwC_cg (σ := σ1) (fun k k0 k1 => o2 k 0 (by omega)), e3, r2]
      · rw [o2 k i (by omega), o1 k i (by omega) (by omega)]
      · rw [o2 k i (by omega), o1 k i (by omega) (by omega)]
  · exact hbad (by omega)
theorem sumF_cg {f g : Int → Int} : ∀ (n : Nat) (i : Int), (∀ j, i ≤ j → j < i + n → f j = g j) → sumF f n i = sumF g n i
  | 0, _, _ => rfl
  | n + 1, i, h => by
    unfold sumF
    rw [h i (by omega) (by omega), sumF_cg n (i + 1) (fun j h1 h2 => h j (by omega) (by omega))]
theorem cntF_cg {f g : Int → Int} {w : Int} : ∀ (n : Nat) (i : Int), (∀ j, i ≤ j → j < i + n → f j = g j) → cntF f w n i = cntF g w n i
  | 0, _, _ => rfl
  | n + 1, i, h => by
    unfold cntF
    rw [h i (by omega) (by omega), cntF_cg n (i + 1) (fun j h1 h2 => h j (by omega) (by omega))]
theorem t_X4_count {d : Nat} (hd : 2 ≤ d) {σ : Sto} {Q : Post} {K : KV} {h : Int} {HK : Int → KV} {tl : Int} {tx : Int → Int} {w : Int} (hC : ClassR σ K h HK tl tx) (hw0 : inR w) (hq : Q (some (.inl (if w = 0 then K 7 0 else if w = 1 then K 7 1 else if w = 2 then sumF (K 0) (K 7 0).toNat 0 else if w = 3 then cntF (K 1) 1 (K 7 0).toNat 0 else if w = 4 then cntF (K 1) 2 (K 7 0).toNat 0 else if w = 5 then K 6 0 else if w = 6 then K 6 1 else if w = 7 then K 6 2 else if w = 8 then K 6 3 else if w = 9 then h else -1))) σ) : WPd d m_X4_count [.inr (0, 0), .inl w] σ Q := by
  obtain ⟨d, rfl⟩ : ∃ k, d = k + 1 := ⟨d - 1, by omega⟩
  intro P hP
  obtain ⟨rfl, hw, hh, htx, hr⟩ := hC
  have hn := hw.1
  rw [vw_n] at hn
  have hm := hw.2.1
  rw [vw_a] at hm
  have es : sumF (vwC σ 0 0) (σ 16 0 7).toNat 0 = sumF (σ 17 0) (σ 16 0 7).toNat 0 := sumF_cg _ _ fun j j0 j1 => (vw_in.1 j0 (by omega)).1
  have ec : ∀ w, cntF (vwC σ 0 1) w (σ 16 0 7).toNat 0 = cntF (σ 18 0) w (σ 16 0 7).toNat 0 := fun w => cntF_cg _ _ fun j j0 j1 => (vw_in.1 j0 (by omega)).2.1
  rw [vw_n, vw_a, es, ec 1, ec 2, (vw_in (σ := σ) (c := 0)).2.2 (by omega) (by omega), (vw_in (σ := σ) (c := 0)).2.2 (by omega) (by omega), (vw_in (σ := σ) (c := 0)).2.2 (by omega) (by omega), (vw_in (σ := σ) (c := 0)).2.2 (by omega) (by omega)] at hq
  (refine go (t := tb_X4_count) (WPd_mono d) hP 60 [] ?_; (conv => whnf); (repeat' (first | (refine ⟨fun _ => ?_, fun _ => ?_⟩ <;> first | (exfalso; omega) | (conv => whnf)) | (refine ⟨by omega, ?_⟩; conv => whnf) | (intro _; conv => whnf))))
  refine ⟨fun q => ?_, ?_⟩
  · have q : w < 0 ∨ 10 ≤ w := q
    ((conv => whnf); (repeat' (first | (refine ⟨fun _ => ?_, fun _ => ?_⟩ <;> first | (exfalso; omega) | (conv => whnf)) | (refine ⟨by omega, ?_⟩; conv => whnf) | (intro _; conv => whnf))))
    rwa [if_neg (by omega), if_neg (by omega), if_neg (by omega), if_neg (by omega), if_neg (by omega), if_neg (by omega), if_neg (by omega), if_neg (by omega), if_neg (by omega), if_neg (by omega)] at hq
  · (conv => whnf)
    refine ⟨fun q => ?_, ?_⟩
    · subst q
      ((conv => whnf); (repeat' (first | (refine ⟨fun _ => ?_, fun _ => ?_⟩ <;> first | (exfalso; omega) | (conv => whnf)) | (refine ⟨by omega, ?_⟩; conv => whnf) | (intro _; conv => whnf))))
      exact hq
    (conv => whnf)
    refine ⟨fun q => ?_, ?_⟩
    · rw [show w = 1 from q] at hq
      ((conv => whnf); (repeat' (first | (refine ⟨fun _ => ?_, fun _ => ?_⟩ <;> first | (exfalso; omega) | (conv => whnf)) | (refine ⟨by omega, ?_⟩; conv => whnf) | (intro _; conv => whnf))))
      exact hq
    (conv => whnf)
    refine ⟨fun q => ?_, ?_⟩
    · rw [show w = 2 from q] at hq
      ((conv => whnf); (repeat' (first | (refine ⟨fun _ => ?_, fun _ => ?_⟩ <;> first | (exfalso; omega) | (conv => whnf)) | (refine ⟨by omega, ?_⟩; conv => whnf) | (intro _; conv => whnf))))
      refine t_X0_thicknessBetween (by omega) (by omega) ?_
      ((conv => whnf); (repeat' (first | (refine ⟨fun _ => ?_, fun _ => ?_⟩ <;> first | (exfalso; omega) | (conv => whnf)) | (refine ⟨by omega, ?_⟩; conv => whnf) | (intro _; conv => whnf))))
      rw [show σ 16 0 7 - 0 = σ 16 0 7 by omega]
      exact hq
    (conv => whnf)
    refine ⟨fun q => ?_, ?_⟩
    · rw [show w = 3 from q] at hq
      ((conv => whnf); (repeat' (first | (refine ⟨fun _ => ?_, fun _ => ?_⟩ <;> first | (exfalso; omega) | (conv => whnf)) | (refine ⟨by omega, ?_⟩; conv => whnf) | (intro _; conv => whnf))))
      refine t_X0_layersOfKind (by omega) (by omega) hn ?_
      ((conv => whnf); (repeat' (first | (refine ⟨fun _ => ?_, fun _ => ?_⟩ <;> first | (exfalso; omega) | (conv => whnf)) | (refine ⟨by omega, ?_⟩; conv => whnf) | (intro _; conv => whnf))))
      exact hq
    (conv => whnf)
    refine ⟨fun q => ?_, ?_⟩
    · rw [show w = 4 from q] at hq
      ((conv => whnf); (repeat' (first | (refine ⟨fun _ => ?_, fun _ => ?_⟩ <;> first | (exfalso; omega) | (conv => whnf)) | (refine ⟨by omega, ?_⟩; conv => whnf) | (intro _; conv => whnf))))
      refine t_X0_layersOfKind (by omega) (by omega) hn ?_
      ((conv => whnf); (repeat' (first | (refine ⟨fun _ => ?_, fun _ => ?_⟩ <;> first | (exfalso; omega) | (conv => whnf)) | (refine ⟨by omega, ?_⟩; conv => whnf) | (intro _; conv => whnf))))
      exact hq
    (conv => whnf)
    refine ⟨fun q => ?_, ?_⟩
    · rw [show w = 5 from q] at hq
      ((conv => whnf); (repeat' (first | (refine ⟨fun _ => ?_, fun _ => ?_⟩ <;> first | (exfalso; omega) | (conv => whnf)) | (refine ⟨by omega, ?_⟩; conv => whnf) | (intro _; conv => whnf))))
      exact hq
    (conv => whnf)
    refine ⟨fun q => ?_, ?_⟩
    · rw [show w = 6 from q] at hq
      ((conv => whnf); (repeat' (first | (refine ⟨fun _ => ?_, fun _ => ?_⟩ <;> first | (exfalso; omega) | (conv => whnf)) | (refine ⟨by omega, ?_⟩; conv => whnf) | (intro _; conv => whnf))))
      exact hq
    (conv => whnf)
    refine ⟨fun q => ?_, ?_⟩
    · rw [show w = 7 from q] at hq
      ((conv => whnf); (repeat' (first | (refine ⟨fun _ => ?_, fun _ => ?_⟩ <;> first | (exfalso; omega) | (conv => whnf)) | (refine ⟨by omega, ?_⟩; conv => whnf) | (intro _; conv => whnf))))
      exact hq
    (conv => whnf)
    refine ⟨fun q => ?_, ?_⟩
    · rw [show w = 8 from q] at hq
      ((conv => whnf); (repeat' (first | (refine ⟨fun _ => ?_, fun _ => ?_⟩ <;> first | (exfalso; omega) | (conv => whnf)) | (refine ⟨by omega, ?_⟩; conv => whnf) | (intro _; conv => whnf))))
      exact hq
    (conv => whnf)
    refine ⟨fun q => ?_, trivial⟩
    rw [show w = 9 from q] at hq
    ((conv => whnf); (repeat' (first | (refine ⟨fun _ => ?_, fun _ => ?_⟩ <;> first | (exfalso; omega) | (conv => whnf)) | (refine ⟨by omega, ?_⟩; conv => whnf) | (intro _; conv => whnf))))
    rw [hh.1]
    exact hq
theorem t_X4_layer {d : Nat} (hd : 3 ≤ d) {σ : Sto} {Q : Post} {K : KV} {h : Int} {HK : Int → KV} {tl : Int} {tx : Int → Int} {i w : Int} (hC : ClassR σ K h HK tl tx) (hi : inR i) (hw0 : inR w) (hbad : ¬ ((0 ≤ i ∧ i < K 7 0) ∧ (0 ≤ w ∧ w ≤ 2)) → Q (some (.inl (-1))) σ) (hok : (0 ≤ i ∧ i < K 7 0) ∧ (0 ≤ w ∧ w ≤ 2) → Q (some (.inl (K w.toNat i))) σ) : WPd d m_X4_layer [.inr (0, 0), .inl i, .inl w] σ Q := by
  obtain ⟨d, rfl⟩ : ∃ k, d = k + 1 := ⟨d - 1, by omega⟩
  intro P hP
  obtain ⟨rfl, hw, hh, htx, hr⟩ := hC
  have hn := hw.1
  rw [vw_n] at hn hbad hok
  (refine go (t := tb_X4_layer) (WPd_mono d) hP 60 [] ?_; (conv => whnf); (repeat' (first | (refine ⟨fun _ => ?_, fun _ => ?_⟩ <;> first | (exfalso; omega) | (conv => whnf)) | (refine ⟨by omega, ?_⟩; conv => whnf) | (intro _; conv => whnf))))
  refine t_X4_isLayer (by omega) hi hn (fun q1 => ?_) (fun q => ?_)
  · ((conv => whnf); (repeat' (first | (refine ⟨fun _ => ?_, fun _ => ?_⟩ <;> first | (exfalso; omega) | (conv => whnf)) | (refine ⟨by omega, ?_⟩; conv => whnf) | (intro _; conv => whnf))))
    refine t_X4_isWithin (by omega) hw0 (by omega) (by omega) (fun q2 => ?_) (fun q => ?_)
    · obtain ⟨v0, v1, v2⟩ := vw_in.1 q1.1 q1.2
      have hok := hok ⟨q1, q2⟩
      ((conv => whnf); (repeat' (first | (refine ⟨fun _ => ?_, fun _ => ?_⟩ <;> first | (exfalso; omega) | (conv => whnf)) | (refine ⟨by omega, ?_⟩; conv => whnf) | (intro _; conv => whnf))))
      refine t_X0_layerProperties (by omega) q2 (fun e => ?_) (fun e => ?_) (fun e => ?_)
      · rw [e] at hok
        ((conv => whnf); (repeat' (first | (refine ⟨fun _ => ?_, fun _ => ?_⟩ <;> first | (exfalso; omega) | (conv => whnf)) | (refine ⟨by omega, ?_⟩; conv => whnf) | (intro _; conv => whnf))))
        rw [← v0]
        exact hok
      · rw [e] at hok
        ((conv => whnf); (repeat' (first | (refine ⟨fun _ => ?_, fun _ => ?_⟩ <;> first | (exfalso; omega) | (conv => whnf)) | (refine ⟨by omega, ?_⟩; conv => whnf) | (intro _; conv => whnf))))
        rw [← v1]
        exact hok
      · rw [e] at hok
        ((conv => whnf); (repeat' (first | (refine ⟨fun _ => ?_, fun _ => ?_⟩ <;> first | (exfalso; omega) | (conv => whnf)) | (refine ⟨by omega, ?_⟩; conv => whnf) | (intro _; conv => whnf))))
        rw [← v2]
        exact hok
    · ((conv => whnf); (repeat' (first | (refine ⟨fun _ => ?_, fun _ => ?_⟩ <;> first | (exfalso; omega) | (conv => whnf)) | (refine ⟨by omega, ?_⟩; conv => whnf) | (intro _; conv => whnf))))
      exact hbad (fun e => q e.2)
  · ((conv => whnf); (repeat' (first | (refine ⟨fun _ => ?_, fun _ => ?_⟩ <;> first | (exfalso; omega) | (conv => whnf)) | (refine ⟨by omega, ?_⟩; conv => whnf) | (intro _; conv => whnf))))
    exact hbad (fun e => q e.1)
theorem t_X4_ash {d : Nat} (hd : 3 ≤ d) {σ : Sto} {Q : Post} {K : KV} {h : Int} {HK : Int → KV} {tl : Int} {tx : Int → Int} {i w : Int} (hC : ClassR σ K h HK tl tx) (hi : inR i) (hw0 : inR w) (hbad : ¬ ((0 ≤ i ∧ i < K 7 1) ∧ (0 ≤ w ∧ w ≤ 2)) → Q (some (.inl (-1))) σ) (hok : (0 ≤ i ∧ i < K 7 1) ∧ (0 ≤ w ∧ w ≤ 2) → Q (some (.inl (K (3 + w.toNat) i))) σ) : WPd d m_X4_ash [.inr (0, 0), .inl i, .inl w] σ Q := by
  obtain ⟨d, rfl⟩ : ∃ k, d = k + 1 := ⟨d - 1, by omega⟩
  intro P hP
  obtain ⟨rfl, hw, hh, htx, hr⟩ := hC
  have hn := hw.2.1
  rw [vw_a] at hn hbad hok
  (refine go (t := tb_X4_ash) (WPd_mono d) hP 60 [] ?_; (conv => whnf); (repeat' (first | (refine ⟨fun _ => ?_, fun _ => ?_⟩ <;> first | (exfalso; omega) | (conv => whnf)) | (refine ⟨by omega, ?_⟩; conv => whnf) | (intro _; conv => whnf))))
  refine t_X4_isAsh (by omega) hi hn (fun q1 => ?_) (fun q => ?_)
  · ((conv => whnf); (repeat' (first | (refine ⟨fun _ => ?_, fun _ => ?_⟩ <;> first | (exfalso; omega) | (conv => whnf)) | (refine ⟨by omega, ?_⟩; conv => whnf) | (intro _; conv => whnf))))
    refine t_X4_isWithin (by omega) hw0 (by omega) (by omega) (fun q2 => ?_) (fun q => ?_)
    · obtain ⟨v0, v1, v2⟩ := vw_in.2.1 q1.1 q1.2
      have hok := hok ⟨q1, q2⟩
      ((conv => whnf); (repeat' (first | (refine ⟨fun _ => ?_, fun _ => ?_⟩ <;> first | (exfalso; omega) | (conv => whnf)) | (refine ⟨by omega, ?_⟩; conv => whnf) | (intro _; conv => whnf))))
      refine t_X0_ashProperties (by omega) q2 (fun e => ?_) (fun e => ?_) (fun e => ?_)
      · rw [e] at hok
        ((conv => whnf); (repeat' (first | (refine ⟨fun _ => ?_, fun _ => ?_⟩ <;> first | (exfalso; omega) | (conv => whnf)) | (refine ⟨by omega, ?_⟩; conv => whnf) | (intro _; conv => whnf))))
        rw [← v0]
        exact hok
      · rw [e] at hok
        ((conv => whnf); (repeat' (first | (refine ⟨fun _ => ?_, fun _ => ?_⟩ <;> first | (exfalso; omega) | (conv => whnf)) | (refine ⟨by omega, ?_⟩; conv => whnf) | (intro _; conv => whnf))))
        rw [← v1]
        exact hok
      · rw [e] at hok
        ((conv => whnf); (repeat' (first | (refine ⟨fun _ => ?_, fun _ => ?_⟩ <;> first | (exfalso; omega) | (conv => whnf)) | (refine ⟨by omega, ?_⟩; conv => whnf) | (intro _; conv => whnf))))
        rw [← v2]
        exact hok
    · ((conv => whnf); (repeat' (first | (refine ⟨fun _ => ?_, fun _ => ?_⟩ <;> first | (exfalso; omega) | (conv => whnf)) | (refine ⟨by omega, ?_⟩; conv => whnf) | (intro _; conv => whnf))))
      exact hbad (fun e => q e.2)
  · ((conv => whnf); (repeat' (first | (refine ⟨fun _ => ?_, fun _ => ?_⟩ <;> first | (exfalso; omega) | (conv => whnf)) | (refine ⟨by omega, ?_⟩; conv => whnf) | (intro _; conv => whnf))))
    exact hbad (fun e => q e.1)
end
section
/-! LEAST COSTS as values -/
theorem Mn_un {ι : Type} {S : Int → Prop} {N v : Int} {I : ι → Prop} {x k : ι → Int} {Si : ι → Int → Prop} (hi : ∀ i, I i → Mn (Si i) N (x i) ∧ 0 ≤ k i) (hS : ∀ c, S c ↔ ∃ i, I i ∧ ∃ c', Si i c' ∧ c = c' + k i) (hb : ∀ c, S c → c < N) (h1 : v ≤ N) (h2 : ∀ i, I i → v ≤ x i + k i) (h3 : v = N ∨ ∃ i, I i ∧ v = x i + k i) : Mn S N v := by
  have low : ∀ c, S c → v ≤ c := fun c hc => by
    obtain ⟨i, hI, c', hc', e⟩ := (hS c).1 hc
    have a := (hi i hI).1.1 c' hc'
    have b := h2 i hI
    omega
  refine ⟨low, ?_⟩
  by_cases q : v = N
  · refine Or.inl ⟨q, fun c hc => ?_⟩
    have a := low c hc
    have b := hb c hc
    omega
  · rcases h3 with e | ⟨i, hI, e⟩
    · exact absurd e q
    · obtain ⟨a, b⟩ := hi i hI
      rcases a.2 with ⟨c1, c2⟩ | ⟨c1, c2⟩
      · omega
      · exact Or.inr ⟨by omega, (hS v).2 ⟨i, hI, x i, c2, e⟩⟩
theorem Mn_iff {S T : Int → Prop} {N v : Int} (h : Mn S N v) (e : ∀ c, S c ↔ T c) : Mn T N v := ⟨fun c hc => h.1 c ((e c).2 hc), by
  rcases h.2 with ⟨a, b⟩ | ⟨a, b⟩
  · exact Or.inl ⟨a, fun c hc => b c ((e c).2 hc)⟩
  · exact Or.inr ⟨a, (e v).1 b⟩⟩
theorem Mn_eq {S : Int → Prop} {N v w : Int} (h : Mn S N v) (h' : Mn S N w) : v = w := by
  rcases h.2 with ⟨a, b⟩ | ⟨a, b⟩ <;> rcases h'.2 with ⟨c, e⟩ | ⟨c, e⟩
  · omega
  · exact absurd e (b w)
  · exact absurd b (e v)
  · have x := h.1 w e
    have y := h'.1 v b
    omega
theorem Mn_le {S : Int → Prop} {N v : Int} (h : Mn S N v) : v ≤ N := by
  rcases h.2 with ⟨a, b⟩ | ⟨a, b⟩ <;> omega
theorem Mn_0 {S : Int → Prop} {N v : Int} (h : Mn S N v) (hN : 0 ≤ N) (hs : ∀ c, S c → 0 ≤ c) : 0 ≤ v := by
  rcases h.2 with ⟨a, b⟩ | ⟨a, b⟩
  · omega
  · exact hs v b
theorem mul_b {g x G X : Int} (h0 : 0 ≤ g) (h1 : g ≤ G) (h2 : 0 ≤ x) (h3 : x ≤ X) : 0 ≤ g * x ∧ g * x ≤ G * X := ⟨Int.mul_nonneg h0 h2, Int.mul_le_mul h1 h3 h2 (by omega)⟩
def acB (ac : Int → Int → Option Int) (W : Int) : Prop := ∀ p a w, ac p a = some w → 0 ≤ w ∧ w ≤ W
theorem oK_b {K : KV} (hK : WFK K) (p o : Int) : 0 ≤ oK K p o ∧ oK K p o ≤ 50 := by
  have a := hK.2.2.2.2.2 0 (by omega) (by omega)
  have b := hK.2.2.2.2.2 1 (by omega) (by omega)
  unfold oK oCst
  (repeat' split) <;> omega
theorem gap_b {K : KV} (hK : WFK K) {p g : Int} (hp : 0 ≤ p ∧ p < K 7 0) (hg : 0 ≤ g ∧ g ≤ K 2 p) : 0 ≤ g * K 6 2 ∧ g * K 6 2 ≤ 1000 := by
  have a := hK.2.2.2.2.2 2 (by omega) (by omega)
  have b := (hK.2.2.1 p hp.1 hp.2).2.2
  exact mul_b (G := 20) (X := 50) hg.1 (by omega) a.1 a.2
theorem cont_b {K : KV} (hK : WFK K) {ac : Int → Int → Option Int} {B W : Int} (hac : acB ac W) : ∀ (m : Nat) (p a c : Int), 0 ≤ p → p + m ≤ K 7 0 → cont K ac B m p a c → 0 ≤ c ∧ c ≤ m * (1050 + W)
  | 0, p, a, c, _, _, h => by
    have h : c = 0 := h
    omega
  | m + 1, p, a, c, h0, h1, h => by
    obtain ⟨o, g, w, c', ho, hg, hb, hw, hc, rfl⟩ := h
    have ih := cont_b hK hac m (p + 1) _ c' (by omega) (by omega) hc
    have e1 := oK_b hK p o
    have e2 := gap_b hK (p := p) (g := g) (by omega) hg
    have e3 := hac _ _ _ hw
    rw [show ((m + 1 : Nat) : Int) * (1050 + W) = (m : Int) * (1050 + W) + (1050 + W) by rw [show ((m + 1 : Nat) : Int) = (m : Int) + 1 by omega, Int.add_mul, Int.one_mul]]
    omega
theorem acK_b {K : KV} (hK : WFK K) : acB (acK K) 450 := by
  intro p a w h
  unfold acK at h
  have s := hK.2.2.2.2.2 3 (by omega) (by omega)
  have bx := axK_of K p hK.2.1.1
  split at h
  · cases h
    omega
  · rename_i q
    split at h
    · cases h
    · rename_i q2
      cases h
      have u := (hK.2.2.2.1 (axK K p) (by omega) (by omega)).2.2
      have d0 : 0 ≤ dif a (K 4 (axK K p)) := by
        unfold dif
        omega
      exact mul_b (G := 9) (X := 50) d0 (by omega) s.1 s.2
theorem t_X2_clearRow {d : Nat} (hd : 1 ≤ d) {σ : Sto} {Q : Post} {k : Nat} {c v : Int} (hk : lenI k = some 601) (h3 : k ≠ 3) (hv : inR v) (ho : 0 ≤ σ 3 0 11 ∧ σ 3 0 11 ≤ 600) (hq : ∀ σ', (∀ k' i', ¬ (k' = k ∧ i' = c) → σ' k' i' = σ k' i') → (∀ j, 0 ≤ j → j ≤ σ 3 0 11 → σ' k c j = v) → Q none σ') : WPd d m_X2_clearRow [.inr (3, 0), .inr (k, c), .inl v] σ Q := by
  obtain ⟨d, rfl⟩ : ∃ k, d = k + 1 := ⟨d - 1, by omega⟩
  intro P hP
  have L : ∀ (m : Nat) (i : Int) (τ : Sto), m = (σ 3 0 11 + 1 - i).toNat → 0 ≤ i → i ≤ σ 3 0 11 + 1 → (∀ k' i', ¬ (k' = k ∧ i' = c) → τ k' i' = σ k' i') → (∀ j, 0 ≤ j → j < i → τ k c j = v) → P 2 [.inr (3, 0), .inr (k, c), .inl v, .inl i] [] τ := by
    intro m
    induction m with
    | zero =>
      intro i τ hm i0 i1 e1 e2
      have e3 : τ 3 0 11 = σ 3 0 11 := by rw [e1 3 0 (fun e => h3 e.1.symm)]
      (refine go (t := tb_X2_clearRow) (WPd_mono d) hP 30 [2] ?_; (conv => whnf); (repeat' (first | (refine ⟨fun _ => ?_, fun _ => ?_⟩ <;> first | (exfalso; omega) | (conv => whnf)) | (refine ⟨by omega, ?_⟩; conv => whnf) | (intro _; conv => whnf))))
      exact hq τ e1 (fun j j0 j1 => e2 j j0 (by omega))
    | succ m ih =>
      intro i τ hm i0 i1 e1 e2
      have e3 : τ 3 0 11 = σ 3 0 11 := by rw [e1 3 0 (fun e => h3 e.1.symm)]
      (refine go (t := tb_X2_clearRow) (WPd_mono d) hP 30 [2] ?_; (conv => whnf); (repeat' (first | (refine ⟨fun _ => ?_, fun _ => ?_⟩ <;> first | (exfalso; omega) | (conv => whnf)) | (refine ⟨by omega, ?_⟩; conv => whnf) | (intro _; conv => whnf))))
      simp only [hk]
      ((conv => whnf); (repeat' (first | (refine ⟨fun _ => ?_, fun _ => ?_⟩ <;> first | (exfalso; omega) | (conv => whnf)) | (refine ⟨by omega, ?_⟩; conv => whnf) | (intro _; conv => whnf))))
      refine ih (i + 1) _ (by omega) (by omega) (by omega) (fun k' i' h => ?_) (fun j j0 j1 => ?_)
      · funext j
        rw [show upS τ k c i v k' i' j = τ k' i' j from if_neg fun e => h ⟨e.1, e.2.1⟩, e1 k' i' h]
      · by_cases e : j = i
        · rw [e, up_hit]
        · rw [up_j e]
          exact e2 j j0 (by omega)
  (refine go (t := tb_X2_clearRow) (WPd_mono d) hP 30 [2] ?_; (conv => whnf); (repeat' (first | (refine ⟨fun _ => ?_, fun _ => ?_⟩ <;> first | (exfalso; omega) | (conv => whnf)) | (refine ⟨by omega, ?_⟩; conv => whnf) | (intro _; conv => whnf))))
  exact L _ 0 σ rfl (by omega) (by omega) (fun _ _ _ => rfl) (fun j j0 j1 => by omega)
end
section
/-! TAILS of locals: what stands behind the locals that are looked at may be left out -/
def wkP (P : Ctx) : Ctx := fun pc ls st σ => ∀ t, P pc (ls ++ t) st σ
theorem ext_get {l t : List AV} {k : Nat} {x : AV} (h : l[k]? = some x) : (l ++ t)[k]? = some x := by
  have hk : k < l.length := by
    by_cases q : k < l.length
    · exact q
    · rw [List.getElem?_eq_none (by omega)] at h
      cases h
  rw [List.getElem?_append_left hk, h]
theorem setl_ext : ∀ {l l' : List AV} {k : Nat} {v : AV}, setl l k v = some l' → ∀ t, ∃ t', setl (l ++ t) k v = some (l' ++ t')
  | [], l', 0, v, h, t => by
    cases h
    cases t with
    | nil => exact ⟨[], rfl⟩
    | cons a t1 => exact ⟨t1, rfl⟩
  | [], l', k + 1, v, h, t => by cases h
  | a :: l, l', 0, v, h, t => by
    cases h
    exact ⟨t, rfl⟩
  | a :: l, l', k + 1, v, h, t => by
    unfold setl at h
    cases e : setl l k v with
    | none => rw [e] at h; cases h
    | some l1 =>
      rw [e] at h
      cases h
      obtain ⟨t', e'⟩ := setl_ext e t
      refine ⟨t', ?_⟩
      show (match setl (l ++ t) k v with | some l' => some (a :: l') | none => none) = _
      rw [e']
      rfl
theorem stp_ext {Γ : Gam} {Q : Post} {P : Ctx} (hΓ : gmono Γ) {ls st : List AV} {σ : Sto} {ins : AMI} (h : stp Γ Q (wkP P) ls st σ ins) (t : List AV) : stp Γ Q P (ls ++ t) st σ ins := by
  have hc : ∀ (nx : Nat) (ls st' : List AV) (r : Option AV) (σ' : Sto), (match r with
      | none => wkP P nx ls st' σ'
      | some v => wkP P nx ls (v :: st') σ') → (match r with
      | none => P nx (ls ++ t) st' σ'
      | some v => P nx (ls ++ t) (v :: st') σ') := by
    intro nx ls st' r σ' h
    cases r <;> exact h t
  unfold stp at h ⊢
  split at h
  · exact h t
  · unfold s_load at h ⊢; split at h <;> first | exact h.elim | (rename_i e1; rw [ext_get e1]; exact h t)
  · unfold s_loadA at h ⊢; split at h <;> first | exact h.elim | (rename_i e1; rw [ext_get e1]; exact h t)
  · unfold s_store at h ⊢; split at h
    · split at h
      · rename_i e1
        obtain ⟨t', e'⟩ := setl_ext e1 t
        simp only [e']
        exact h t'
      · exact h.elim
    · exact h.elim
  · unfold s_storeA at h ⊢; split at h
    · split at h
      · rename_i e1
        obtain ⟨t', e'⟩ := setl_ext e1 t
        simp only [e']
        exact h t'
      · exact h.elim
    · exact h.elim
  · unfold s_add at h ⊢; split at h <;> first | exact h.elim | exact h t
  · unfold s_sub at h ⊢; split at h <;> first | exact h.elim | exact h t
  · unfold s_mul at h ⊢; split at h <;> first | exact h.elim | exact h t
  · unfold s_idiv at h ⊢; split at h <;> first | exact h.elim | exact ⟨h.1, h.2 t⟩
  · unfold s_irem at h ⊢; split at h <;> first | exact h.elim | exact ⟨h.1, h.2 t⟩
  · unfold s_neg at h ⊢; split at h <;> first | exact h.elim | exact h t
  · unfold s_iinc at h ⊢; split at h
    · rename_i e0
      split at h
      · rename_i e1
        obtain ⟨t', e'⟩ := setl_ext e1 t
        simp only [ext_get e0, e']
        exact h t'
      · exact h.elim
    · exact h.elim
  · unfold s_dup at h ⊢; split at h <;> first | exact h.elim | exact h t
  · unfold s_dup2 at h ⊢; split at h <;> first | exact h.elim | exact h t
  · unfold s_pop at h ⊢; split at h <;> first | exact h.elim | exact h t
  · unfold s_if at h ⊢; split at h <;> first | exact h.elim | exact ⟨h.1, brc_mono (fun q => q t) (fun q => q t) h.2⟩
  · unfold s_icmp at h ⊢; split at h <;> first | exact h.elim | exact ⟨h.1, brc_mono (fun q => q t) (fun q => q t) h.2⟩
  · exact h t
  · unfold s_switch at h ⊢; split at h <;> first | exact h.elim | exact ⟨h.1, fun q => h.2.1 q t, swc_mono (fun _ q => q t) h.2.2⟩
  · unfold s_iald at h ⊢; split at h
    · split at h <;> first | exact h.elim | exact ⟨h.1, fun q => h.2 q t⟩ | (rename_i e1; simp only [e1]; exact ⟨h.1, fun q => h.2 q t⟩)
    · exact h.elim
  · unfold s_cald at h ⊢; split at h
    · split at h <;> first | exact h.elim | exact ⟨h.1, fun q => h.2 q t⟩ | (rename_i e1; simp only [e1]; exact ⟨h.1, fun q => h.2 q t⟩)
    · exact h.elim
  · unfold s_aald at h ⊢; split at h
    · split at h <;> first | exact h.elim | exact ⟨h.1, h.2 t⟩ | (rename_i e1; simp only [e1]; exact ⟨h.1, h.2 t⟩)
    · exact h.elim
  · unfold s_iast at h ⊢; split at h
    · split at h <;> first | exact h.elim | exact ⟨h.1, h.2 t⟩ | (rename_i e1; simp only [e1]; exact ⟨h.1, h.2 t⟩)
    · exact h.elim
  · unfold s_cast at h ⊢; split at h
    · split at h <;> first | exact h.elim | exact ⟨h.1, h.2 t⟩ | (rename_i e1; simp only [e1]; exact ⟨h.1, h.2 t⟩)
    · exact h.elim
  · unfold s_get at h ⊢; split at h
    · split at h
      · rename_i e0
        split at h
        · rename_i e2
          split at h <;> first | exact h.elim | first | exact h t | exact fun q => h q t | (rename_i e1; simp only [e0, e1, if_pos e2]; first | exact h t | exact fun q => h q t)
        · exact h.elim
      · exact h.elim
    · exact h.elim
  · unfold s_put at h ⊢; split at h
    · split at h
      · rename_i e0
        split at h
        · rename_i e2
          split at h
          · rename_i e1
            simp only [e0, e1, if_pos e2]
            exact ⟨h.1, h.2 t⟩
          · exact h.elim
        · exact h.elim
      · exact h.elim
    · exact h.elim
  · unfold s_put at h ⊢; split at h
    · split at h
      · rename_i e0
        split at h
        · rename_i e2
          split at h
          · rename_i e1
            simp only [e0, e1, if_pos e2]
            exact ⟨h.1, h.2 t⟩
          · exact h.elim
        · exact h.elim
      · exact h.elim
    · exact h.elim
  · unfold s_i2c at h ⊢; split at h <;> first | exact h.elim | exact ⟨h.1, h.2 t⟩
  · unfold s_copy at h ⊢; split at h
    · split at h
      · rename_i e0 e1
        split at h <;> first | exact h.elim | exact ⟨h.1, h.2 t⟩ | (rename_i e2; simp only [e0, e1, if_pos e2]; exact ⟨h.1, h.2 t⟩)
      · exact h.elim
    · exact h.elim
  · unfold s_call at h ⊢; split at h
    · rename_i e0
      split at h <;> first | exact h.elim | exact hΓ _ _ _ _ _ (hc _ _ _) h | (rename_i e2; simp only [e0, if_pos e2]; exact hΓ _ _ _ _ _ (hc _ _ _) h)
    · exact h.elim
  · unfold s_callV at h ⊢; split at h
    · rename_i e0
      split at h
      · rename_i e1
        split at h
        · rename_i e3
          split at h <;> first | exact h.elim | exact hΓ _ _ _ _ _ (hc _ _ _) h | (rename_i e2; simp only [e0, e1, if_pos e2, if_pos e3]; exact hΓ _ _ _ _ _ (hc _ _ _) h)
        · exact h.elim
      · exact h.elim
    · exact h.elim
  · unfold s_call at h ⊢; split at h
    · rename_i e0
      split at h <;> first | exact h.elim | exact hΓ _ _ _ _ _ (hc _ _ _) h | (rename_i e2; simp only [e0, if_pos e2]; exact hΓ _ _ _ _ _ (hc _ _ _) h)
    · exact h.elim
  · unfold s_min at h ⊢; split at h
    · split at h <;> first | exact h.elim | exact ⟨h.1, h.2 t⟩ | (rename_i e2; simp only [if_pos e2]; exact ⟨h.1, h.2 t⟩)
    · exact h.elim
  · unfold s_max at h ⊢; split at h
    · split at h <;> first | exact h.elim | exact ⟨h.1, h.2 t⟩ | (rename_i e2; simp only [if_pos e2]; exact ⟨h.1, h.2 t⟩)
    · exact h.elim
  · unfold s_abs at h ⊢; split at h
    · split at h <;> first | exact h.elim | exact ⟨h.1, h.2 t⟩ | (rename_i e2; simp only [if_pos e2]; exact ⟨h.1, h.2 t⟩)
    · exact h.elim
  · unfold s_ret at h ⊢; split at h <;> first | exact h.elim | exact h
  · unfold s_retZ at h ⊢; split at h <;> first | exact h.elim | exact ⟨h.1, h.2⟩
  · unfold s_retA at h ⊢; split at h <;> first | exact h.elim | exact h
  · unfold s_retV at h ⊢; split at h <;> first | exact h.elim | exact h
  · unfold s_shr at h ⊢; split at h <;> first | exact h.elim | exact ⟨h.1, h.2 t⟩
  · unfold s_and at h ⊢; split at h <;> first | exact h.elim | exact ⟨h.1, h.2 t⟩
  · unfold s_scrLen at h ⊢; split at h <;> first | exact h.elim | exact h t
  · unfold s_scr at h ⊢; split at h <;> first | exact h.elim | exact ⟨h.1, fun q => h.2 q t⟩
  · exact h.elim
/-- a method is walked under a predicate that bears longer locals -/
theorem wpm_of {Γ : Gam} (hΓ : gmono Γ) {y : Nat} {as : List AV} {σ : Sto} {Q : Post} (h : ∀ P : Ctx, (∀ (n : Nat) {pc : Nat} {ls st : List AV} {σ : Sto}, P pc (ls.take n) st σ → P pc ls st σ) → (∀ pc ls st σ, stp Γ Q P ls st σ (lk2 (tbl y) pc) → P pc ls st σ) → P 0 as [] σ) : wpm Γ y as σ Q := by
  intro P hP
  have a := h (wkP P) (fun n pc ls st σ q t => by
    have b := q (ls.drop n ++ t)
    rwa [← List.append_assoc, List.take_append_drop] at b) (fun pc ls st σ q t => hP pc (ls ++ t) st σ (stp_ext hΓ q t)) []
  rwa [List.append_nil] at a
theorem wpd_of {d : Nat} {y : Nat} {as : List AV} {σ : Sto} {Q : Post} (h : ∀ P : Ctx, (∀ (n : Nat) {pc : Nat} {ls st : List AV} {σ : Sto}, P pc (ls.take n) st σ → P pc ls st σ) → (∀ pc ls st σ, stp (WPd d) Q P ls st σ (lk2 (tbl y) pc) → P pc ls st σ) → P 0 as [] σ) : WPd (d + 1) y as σ Q := wpm_of (WPd_mono d) h
end
section
/-! THE RECKONING: rows -/
def acV (K : KV) (p a : Int) : Int := match acK K p a with
  | none => 268435456
  | some w => w
theorem acV_of {K : KV} (hK : WFK K) (p a : Int) : aCst (axK K p) a (K 4 (axK K p)) (K 5 (axK K p)) (K 6 3) = acV K p a ∧ 0 ≤ acV K p a ∧ acV K p a ≤ 268435456 := by
  have b := acK_b hK
  unfold acV aCst
  cases e : acK K p a with
  | none =>
    unfold acK at e
    split at e
    · cases e
    · rename_i q
      split at e
      · rename_i q2
        rw [if_neg q, if_pos q2]
        exact ⟨rfl, by decide, by decide⟩
      · cases e
  | some w =>
    have b2 := b p a w e
    unfold acK at e
    refine ⟨?_, by simp only []; omega, by simp only []; omega⟩
    split at e
    · rename_i q
      cases e
      rw [if_pos q]
    · rename_i q
      split at e
      · cases e
      · rename_i q2
        cases e
        rw [if_neg q, if_neg q2]
theorem t_X2_addAshCosts {d : Nat} (hd : 2 ≤ d) {σ : Sto} {Q : Post} {K : KV} {k : Nat} {c p B : Int} (hk : k = 24 ∨ k = 25) (hK : vwC σ 0 = K) (hw : WFK K) (hp : 0 ≤ p ∧ p ≤ 50) (hB : σ 3 0 11 = B) (ho : 0 ≤ B ∧ B ≤ 600) (hrow : ∀ a, 0 ≤ a → a ≤ B → 0 ≤ σ k c a ∧ σ k c a ≤ 268435456) (hq : ∀ σ', (∀ k' i', k' ≠ 8 → σ' k' i' = σ k' i') → (∀ a, 0 ≤ a → a ≤ B → σ' 8 0 a = min 268435456 (σ k c a + acV K p a)) → Q none σ') : WPd d m_X2_addAshCosts [.inr (3, 0), .inl p, .inr (k, c)] σ Q := by
  obtain ⟨d, rfl⟩ : ∃ k, d = k + 1 := ⟨d - 1, by omega⟩
  intro P hP
  have hl : lenI k = some 601 := by rcases hk with rfl | rfl <;> rfl
  subst hK
  have bx := axK_of (vwC σ 0) p hw.2.1.1
  rw [vw_a] at bx
  have hm := hw.2.1
  rw [vw_a] at hm
  have hv : 0 ≤ axK (vwC σ 0) p → vwC σ 0 4 (axK (vwC σ 0) p) = σ 21 0 (axK (vwC σ 0) p) ∧ vwC σ 0 5 (axK (vwC σ 0) p) = σ 22 0 (axK (vwC σ 0) p) ∧ (0 ≤ σ 21 0 (axK (vwC σ 0) p) ∧ σ 21 0 (axK (vwC σ 0) p) ≤ 500) := fun h => by
    obtain ⟨v0, v1, v2⟩ := (vw_in (σ := σ) (c := 0)).2.1 h (show axK (vwC σ 0) p < σ 16 0 8 by omega)
    have := (hw.2.2.2.1 (axK (vwC σ 0) p) h (by rw [vw_a]; omega)).2.1
    exact ⟨v1, v2, by omega⟩
  have h6 : vwC σ 0 6 3 = σ 23 0 3 := (vw_in (σ := σ) (c := 0)).2.2 (by omega) (by omega)
  have hac : ∀ a, aCst (axK (vwC σ 0) p) a (σ 21 0 (axK (vwC σ 0) p)) (σ 22 0 (axK (vwC σ 0) p)) (σ 23 0 3) = acV (vwC σ 0) p a ∧ 0 ≤ acV (vwC σ 0) p a ∧ acV (vwC σ 0) p a ≤ 268435456 := fun a => by
    have t := acV_of hw p a
    refine ⟨?_, t.2⟩
    rw [← t.1, h6]
    by_cases e : axK (vwC σ 0) p = -1
    · unfold aCst
      rw [if_pos e, if_pos e]
    · obtain ⟨v1, v2, _⟩ := hv (by omega)
      rw [v1, v2]
  have L : ∀ (m : Nat) (i : Int) (τ : Sto), m = (B + 1 - i).toNat → 0 ≤ i → i ≤ B + 1 → (∀ k' i', k' ≠ 8 → τ k' i' = σ k' i') → (∀ a, 0 ≤ a → a < i → τ 8 0 a = min 268435456 (σ k c a + acV (vwC σ 0) p a)) → P 12 [.inr (3, 0), .inl p, .inr (k, c), .inl (axK (vwC σ 0) p), .inl i] [] τ := by
    intro m
    induction m with
    | zero =>
      intro i τ hm i0 i1 e1 e2
      have e3 : τ 3 0 11 = B := by rw [e1 3 0 (by decide)]; exact hB
      (refine go (t := tb_X2_addAshCosts) (WPd_mono d) hP 60 [12] ?_; (conv => whnf); (repeat' (first | (refine ⟨fun _ => ?_, fun _ => ?_⟩ <;> first | (exfalso; omega) | (conv => whnf)) | (refine ⟨by omega, ?_⟩; conv => whnf) | (intro _; conv => whnf))))
      exact hq τ e1 (fun a a0 a1 => e2 a a0 (by omega))
    | succ m ih =>
      intro i τ hm i0 i1 e1 e2
      have e3 : τ 3 0 11 = B := by rw [e1 3 0 (by decide)]; exact hB
      have er : τ k c i = σ k c i := by rw [e1 k c (by omega)]
      have rb := hrow i i0 (by omega)
      have ab := hac i
      (refine go (t := tb_X2_addAshCosts) (WPd_mono d) hP 60 [12] ?_; (conv => whnf); (repeat' (first | (refine ⟨fun _ => ?_, fun _ => ?_⟩ <;> first | (exfalso; omega) | (conv => whnf)) | (refine ⟨by omega, ?_⟩; conv => whnf) | (intro _; conv => whnf))))
      simp only [hl]
      ((conv => whnf); (repeat' (first | (refine ⟨fun _ => ?_, fun _ => ?_⟩ <;> first | (exfalso; omega) | (conv => whnf)) | (refine ⟨by omega, ?_⟩; conv => whnf) | (intro _; conv => whnf))))
      refine t_X0_ashCost (by omega) (by omega) (by omega) (fun h => ?_) ?_
      · rw [e1 21 0 (by decide)]
        have := (hv h).2.2
        omega
      · rw [e1 21 0 (by decide), e1 22 0 (by decide), e1 23 0 (by decide), ab.1]
        ((conv => whnf); (repeat' (first | (refine ⟨fun _ => ?_, fun _ => ?_⟩ <;> first | (exfalso; omega) | (conv => whnf)) | (refine ⟨by omega, ?_⟩; conv => whnf) | (intro _; conv => whnf))))
        rw [er]
        refine ih (i + 1) _ (by omega) (by omega) (by omega) (fun k' i' h => by rw [up_k h]; exact e1 k' i' h) (fun a a0 a1 => ?_)
        by_cases e : a = i
        · rw [e, up_hit]
        · rw [up_j e]
          exact e2 a a0 (by omega)
  (refine go (t := tb_X2_addAshCosts) (WPd_mono d) hP 60 [12] ?_; (conv => whnf); (repeat' (first | (refine ⟨fun _ => ?_, fun _ => ?_⟩ <;> first | (exfalso; omega) | (conv => whnf)) | (refine ⟨by omega, ?_⟩; conv => whnf) | (intro _; conv => whnf))))
  refine t_X0_ashAt (by omega) (by omega) hm ?_
  rw [ax_vw]
  ((conv => whnf); (repeat' (first | (refine ⟨fun _ => ?_, fun _ => ?_⟩ <;> first | (exfalso; omega) | (conv => whnf)) | (refine ⟨by omega, ?_⟩; conv => whnf) | (intro _; conv => whnf))))
  exact L _ 0 σ rfl (by omega) (by omega) (fun _ _ _ => rfl) (fun a a0 a1 => by omega)
def pr (w y o z : Int) : Prop := o < w ∨ (o = w ∧ z < y)
def OwnEU (W C : Int → Int) (l h B w y : Int) (V : Int → Int) : Prop := ∀ a, 0 ≤ a → a ≤ B → (0 ≤ V a ∧ V a ≤ 268435456) ∧ (∀ o, l ≤ o → o ≤ h → 0 ≤ a → a + o ≤ B → pr w y o (a) → V a ≤ W (a + o) + C o) ∧ (V a = 268435456 ∨ ∃ o, (l ≤ o ∧ o ≤ h) ∧ (0 ≤ a ∧ a + o ≤ B) ∧ V a = W (a + o) + C o)
theorem OwnEU_0 {W C : Int → Int} {l h B : Int} {V : Int → Int} (hV : ∀ a, 0 ≤ a → a ≤ B → V a = 268435456) : OwnEU W C l h B l 0 V := fun a a0 a1 => by
  have e := hV a a0 a1
  refine ⟨by omega, fun o o0 o1 y0 y1 q => ?_, Or.inl e⟩
  unfold pr at q
  omega
theorem OwnEU_n {W C : Int → Int} {l h B w y : Int} {V : Int → Int} (hE : OwnEU W C l h B w y V) (hy : B < y + w) : OwnEU W C l h B (w + 1) 0 V := fun a a0 a1 => by
  obtain ⟨b, c, d⟩ := hE a a0 a1
  refine ⟨b, fun o o0 o1 y0 y1 q => c o o0 o1 y0 y1 ?_, d⟩
  unfold pr at q ⊢
  omega
theorem OwnEU_s {W C : Int → Int} {l h B w y : Int} {V V' : Int → Int} (hE : OwnEU W C l h B w y V) (hw : l ≤ w ∧ w ≤ h) (h0 : 0 ≤ w) (hy : 0 ≤ y ∧ y + w ≤ B) (hW : 0 ≤ W (y + w)) (hC : 0 ≤ C w) (hV : ∀ a, V' a = if a = y then min (V (y)) (W (y + w) + C w) else V a) : OwnEU W C l h B w (y + 1) V' := fun a a0 a1 => by
  obtain ⟨b, c, d⟩ := hE a a0 a1
  rw [hV]
  by_cases q : a = y
  · rw [if_pos q]
    have q' := q.symm
    subst q'
    refine ⟨by omega, fun o o0 o1 y0 y1 q => ?_, ?_⟩
    · by_cases z : pr w y o (y)
      · have := c o o0 o1 y0 y1 z
        omega
      · have e : o = w := by
          unfold pr at q z
          omega
        subst e
        rw [show y + o = y + o by omega]
        omega
    · by_cases z : V (y) ≤ W (y + w) + C w
      · rw [Int.min_eq_left z]
        exact d
      · rw [Int.min_eq_right (by omega)]
        refine Or.inr ⟨w, hw, by omega, ?_⟩
        rw [show y + w = y + w by omega]
  · rw [if_neg q]
    refine ⟨b, fun o o0 o1 y0 y1 z => c o o0 o1 y0 y1 ?_, d⟩
    unfold pr at z ⊢
    omega
def OwnED (W C : Int → Int) (l h B w y : Int) (V : Int → Int) : Prop := ∀ a, 0 ≤ a → a ≤ B → (0 ≤ V a ∧ V a ≤ 268435456) ∧ (∀ o, l ≤ o → o ≤ h → 0 ≤ a - o → a - o + o ≤ B → pr w y o (a - o) → V a ≤ W (a - o) + C o) ∧ (V a = 268435456 ∨ ∃ o, (l ≤ o ∧ o ≤ h) ∧ (0 ≤ a - o ∧ a - o + o ≤ B) ∧ V a = W (a - o) + C o)
theorem OwnED_0 {W C : Int → Int} {l h B : Int} {V : Int → Int} (hV : ∀ a, 0 ≤ a → a ≤ B → V a = 268435456) : OwnED W C l h B l 0 V := fun a a0 a1 => by
  have e := hV a a0 a1
  refine ⟨by omega, fun o o0 o1 y0 y1 q => ?_, Or.inl e⟩
  unfold pr at q
  omega
theorem OwnED_n {W C : Int → Int} {l h B w y : Int} {V : Int → Int} (hE : OwnED W C l h B w y V) (hy : B < y + w) : OwnED W C l h B (w + 1) 0 V := fun a a0 a1 => by
  obtain ⟨b, c, d⟩ := hE a a0 a1
  refine ⟨b, fun o o0 o1 y0 y1 q => c o o0 o1 y0 y1 ?_, d⟩
  unfold pr at q ⊢
  omega
theorem OwnED_s {W C : Int → Int} {l h B w y : Int} {V V' : Int → Int} (hE : OwnED W C l h B w y V) (hw : l ≤ w ∧ w ≤ h) (h0 : 0 ≤ w) (hy : 0 ≤ y ∧ y + w ≤ B) (hW : 0 ≤ W (y)) (hC : 0 ≤ C w) (hV : ∀ a, V' a = if a = y + w then min (V (y + w)) (W (y) + C w) else V a) : OwnED W C l h B w (y + 1) V' := fun a a0 a1 => by
  obtain ⟨b, c, d⟩ := hE a a0 a1
  rw [hV]
  by_cases q : a = y + w
  · rw [if_pos q]
    have q' := q.symm
    subst q'
    refine ⟨by omega, fun o o0 o1 y0 y1 q => ?_, ?_⟩
    · by_cases z : pr w y o ((y + w) - o)
      · have := c o o0 o1 y0 y1 z
        omega
      · have e : o = w := by
          unfold pr at q z
          omega
        subst e
        rw [show (y + o) - o = y by omega]
        omega
    · by_cases z : V (y + w) ≤ W (y) + C w
      · rw [Int.min_eq_left z]
        exact d
      · rw [Int.min_eq_right (by omega)]
        refine Or.inr ⟨w, hw, by omega, ?_⟩
        rw [show (y + w) - w = y by omega]
  · rw [if_neg q]
    refine ⟨b, fun o o0 o1 y0 y1 z => c o o0 o1 y0 y1 ?_, d⟩
    unfold pr at z ⊢
    omega
end
section
/-! THE RECKONING: own years -/
theorem t_X2_addOwnCostsU {d : Nat} (hd : 2 ≤ d) {σ : Sto} {Q : Post} {K : KV} {p B : Int} (hK : vwC σ 0 = K) (hw : WFK K) (hp : 0 ≤ p ∧ p < K 7 0) (hB : σ 3 0 11 = B) (ho : 0 ≤ B ∧ B ≤ 600) (hrow : ∀ a, 0 ≤ a → a ≤ B → 0 ≤ σ 8 0 a ∧ σ 8 0 a ≤ 268435456) (hq : ∀ σ', (∀ k' i', k' ≠ 9 → σ' k' i' = σ k' i') → OwnEU (σ 8 0) (fun o => oK K p o) (lo (K 1 p)) (hi (K 1 p)) B (hi (K 1 p) + 1) 0 (σ' 9 0) → Q none σ') : WPd d m_X2_addOwnCosts [.inr (3, 0), .inl p, .inl 0] σ Q := by
  obtain ⟨d, rfl⟩ : ∃ k, d = k + 1 := ⟨d - 1, by omega⟩
  refine wpd_of fun P hT hP => ?_
  subst hK
  rw [vw_n] at hp
  have hn := hw.1
  rw [vw_n] at hn
  obtain ⟨-, v1, -⟩ := (vw_in (σ := σ) (c := 0)).1 hp.1 hp.2
  have h60 : vwC σ 0 6 0 = σ 23 0 0 := (vw_in (σ := σ) (c := 0)).2.2 (by omega) (by omega)
  have h61 : vwC σ 0 6 1 = σ 23 0 1 := (vw_in (σ := σ) (c := 0)).2.2 (by omega) (by omega)
  have bo : ∀ o, 0 ≤ oCst (σ 18 0 p) o (σ 23 0 0) (σ 23 0 1) ∧ oCst (σ 18 0 p) o (σ 23 0 0) (σ 23 0 1) ≤ 50 := fun o => by
    have := oK_b hw p o
    unfold oK at this
    rwa [v1, h60, h61] at this
  unfold oK at hq
  rw [v1, h60, h61] at hq
  have bl := lo_b (σ 18 0 p)
  have bh := hi_b (σ 18 0 p)
  generalize hC : (fun o => oCst (σ 18 0 p) o (σ 23 0 0) (σ 23 0 1)) = C at hq
  have L1 : ∀ (n : Nat) (w : Int) (τ : Sto), n = (hi (σ 18 0 p) + 1 - w).toNat → lo (σ 18 0 p) ≤ w → w ≤ hi (σ 18 0 p) + 1 → (∀ k' i', k' ≠ 9 → τ k' i' = σ k' i') → OwnEU (σ 8 0) C (lo (σ 18 0 p)) (hi (σ 18 0 p)) B w 0 (τ 9 0) → P 19 [.inr (3, 0), .inl p, .inl 0, .inl w] [] τ := by
    intro n
    induction n with
    | zero =>
      intro w τ hn0 w0 w1 e1 e2
      have ew : w = hi (σ 18 0 p) + 1 := by omega
      subst ew
      have e3 : τ 18 0 p = σ 18 0 p := by rw [e1 18 0 (by decide)]
      have X := hq τ e1 e2
      (refine go (t := tb_X2_addOwnCosts) (WPd_mono d) hP 90 [19, 45] ?_; (conv => whnf); (repeat' (first | (refine ⟨fun _ => ?_, fun _ => ?_⟩ <;> first | (exfalso; omega) | (conv => whnf)) | (refine ⟨by omega, ?_⟩; conv => whnf) | (intro _; conv => whnf))))
      refine t_X0_mostOwn (by omega) (by omega) ?_
      rw [e3]
      ((conv => whnf); (repeat' (first | (refine ⟨fun _ => ?_, fun _ => ?_⟩ <;> first | (exfalso; omega) | (conv => whnf)) | (refine ⟨by omega, ?_⟩; conv => whnf) | (intro _; conv => whnf))))
      exact X
    | succ n ih =>
      intro w τ hn0 w0 w1 e1 e2
      have e3 : τ 18 0 p = σ 18 0 p := by rw [e1 18 0 (by decide)]
      have L2 : ∀ (m : Nat) (y : Int) (ρ : Sto), m = (B + 1 - w - y).toNat → 0 ≤ y → y ≤ B + 1 → (∀ k' i', k' ≠ 9 → ρ k' i' = σ k' i') → OwnEU (σ 8 0) C (lo (σ 18 0 p)) (hi (σ 18 0 p)) B w y (ρ 9 0) → P 45 [.inr (3, 0), .inl p, .inl 0, .inl w, .inl (oCst (σ 18 0 p) w (σ 23 0 0) (σ 23 0 1)), .inl y] [] ρ := by
        intro m
        induction m with
        | zero =>
          intro y ρ hm y0 y1 f1 f2
          have f3 : ρ 3 0 11 = B := by rw [f1 3 0 (by decide)]; exact hB
          have X := ih (w + 1) ρ (by omega) (by omega) (by omega) f1 (OwnEU_n f2 (by omega))
          (refine go (t := tb_X2_addOwnCosts) (WPd_mono d) hP 90 [19, 45] ?_; (conv => whnf); (repeat' (first | (refine ⟨fun _ => ?_, fun _ => ?_⟩ <;> first | (exfalso; omega) | (conv => whnf)) | (refine ⟨by omega, ?_⟩; conv => whnf) | (intro _; conv => whnf))))
          (refine hT 4 ?_; exact X)
        | succ m jh =>
          intro y ρ hm y0 y1 f1 f2
          have f3 : ρ 3 0 11 = B := by rw [f1 3 0 (by decide)]; exact hB
          have bw := bo w
          have bW := hrow (y + w) (by omega) (by omega)
          have f8 : ρ 8 0 (y + w) = σ 8 0 (y + w) := by rw [f1 8 0 (by decide)]
          have bV := (f2 (y) (by omega) (by omega)).1
          have hCw : C w = oCst (σ 18 0 p) w (σ 23 0 0) (σ 23 0 1) := by rw [← hC]
          (refine go (t := tb_X2_addOwnCosts) (WPd_mono d) hP 90 [19, 45] ?_; (conv => whnf); (repeat' (first | (refine ⟨fun _ => ?_, fun _ => ?_⟩ <;> first | (exfalso; omega) | (conv => whnf)) | (refine ⟨by omega, ?_⟩; conv => whnf) | (intro _; conv => whnf))))
          rw [f8]
          refine hT 6 ?_
          refine jh (y + 1) _ (by omega) (by omega) (by omega) (fun k' i' h => by rw [up_k h]; exact f1 k' i' h) (OwnEU_s f2 (by omega) (by omega) (by omega) bW.1 (by omega) (fun a => ?_))
          rw [hCw]
          by_cases e : a = y
          · rw [if_pos e, e, up_hit]
          · rw [if_neg e, up_j e]
      (refine go (t := tb_X2_addOwnCosts) (WPd_mono d) hP 90 [19, 45] ?_; (conv => whnf); (repeat' (first | (refine ⟨fun _ => ?_, fun _ => ?_⟩ <;> first | (exfalso; omega) | (conv => whnf)) | (refine ⟨by omega, ?_⟩; conv => whnf) | (intro _; conv => whnf))))
      refine t_X0_mostOwn (by omega) (by omega) ?_
      rw [e3]
      ((conv => whnf); (repeat' (first | (refine ⟨fun _ => ?_, fun _ => ?_⟩ <;> first | (exfalso; omega) | (conv => whnf)) | (refine ⟨by omega, ?_⟩; conv => whnf) | (intro _; conv => whnf))))
      refine t_X0_ownCost (by omega) (by omega) (by omega) ?_
      rw [e3, e1 23 0 (by decide)]
      ((conv => whnf); (repeat' (first | (refine ⟨fun _ => ?_, fun _ => ?_⟩ <;> first | (exfalso; omega) | (conv => whnf)) | (refine ⟨by omega, ?_⟩; conv => whnf) | (intro _; conv => whnf))))
      exact L2 _ 0 τ rfl (by omega) (by omega) e1 e2
  (refine go (t := tb_X2_addOwnCosts) (WPd_mono d) hP 90 [19, 45] ?_; (conv => whnf); (repeat' (first | (refine ⟨fun _ => ?_, fun _ => ?_⟩ <;> first | (exfalso; omega) | (conv => whnf)) | (refine ⟨by omega, ?_⟩; conv => whnf) | (intro _; conv => whnf))))
  refine t_X2_clearRow (by omega) rfl (by decide) (by omega) (by omega) (fun σ1 g1 g2 => ?_)
  have e3 : σ1 18 0 p = σ 18 0 p := by rw [g1 18 0 (by omega)]
  ((conv => whnf); (repeat' (first | (refine ⟨fun _ => ?_, fun _ => ?_⟩ <;> first | (exfalso; omega) | (conv => whnf)) | (refine ⟨by omega, ?_⟩; conv => whnf) | (intro _; conv => whnf))))
  refine t_X0_leastOwn (by omega) (by omega) ?_
  rw [e3]
  ((conv => whnf); (repeat' (first | (refine ⟨fun _ => ?_, fun _ => ?_⟩ <;> first | (exfalso; omega) | (conv => whnf)) | (refine ⟨by omega, ?_⟩; conv => whnf) | (intro _; conv => whnf))))
  exact L1 _ _ σ1 rfl (by omega) (by omega) (fun k' i' h => g1 k' i' (by omega)) (OwnEU_0 (fun a a0 a1 => g2 a a0 (by omega)))
theorem t_X2_addOwnCostsD {d : Nat} (hd : 2 ≤ d) {σ : Sto} {Q : Post} {K : KV} {p B : Int} (hK : vwC σ 0 = K) (hw : WFK K) (hp : 0 ≤ p ∧ p < K 7 0) (hB : σ 3 0 11 = B) (ho : 0 ≤ B ∧ B ≤ 600) (hrow : ∀ a, 0 ≤ a → a ≤ B → 0 ≤ σ 8 0 a ∧ σ 8 0 a ≤ 268435456) (hq : ∀ σ', (∀ k' i', k' ≠ 9 → σ' k' i' = σ k' i') → OwnED (σ 8 0) (fun o => oK K p o) (lo (K 1 p)) (hi (K 1 p)) B (hi (K 1 p) + 1) 0 (σ' 9 0) → Q none σ') : WPd d m_X2_addOwnCosts [.inr (3, 0), .inl p, .inl 1] σ Q := by
  obtain ⟨d, rfl⟩ : ∃ k, d = k + 1 := ⟨d - 1, by omega⟩
  refine wpd_of fun P hT hP => ?_
  subst hK
  rw [vw_n] at hp
  have hn := hw.1
  rw [vw_n] at hn
  obtain ⟨-, v1, -⟩ := (vw_in (σ := σ) (c := 0)).1 hp.1 hp.2
  have h60 : vwC σ 0 6 0 = σ 23 0 0 := (vw_in (σ := σ) (c := 0)).2.2 (by omega) (by omega)
  have h61 : vwC σ 0 6 1 = σ 23 0 1 := (vw_in (σ := σ) (c := 0)).2.2 (by omega) (by omega)
  have bo : ∀ o, 0 ≤ oCst (σ 18 0 p) o (σ 23 0 0) (σ 23 0 1) ∧ oCst (σ 18 0 p) o (σ 23 0 0) (σ 23 0 1) ≤ 50 := fun o => by
    have := oK_b hw p o
    unfold oK at this
    rwa [v1, h60, h61] at this
  unfold oK at hq
  rw [v1, h60, h61] at hq
  have bl := lo_b (σ 18 0 p)
  have bh := hi_b (σ 18 0 p)
  generalize hC : (fun o => oCst (σ 18 0 p) o (σ 23 0 0) (σ 23 0 1)) = C at hq
  have L1 : ∀ (n : Nat) (w : Int) (τ : Sto), n = (hi (σ 18 0 p) + 1 - w).toNat → lo (σ 18 0 p) ≤ w → w ≤ hi (σ 18 0 p) + 1 → (∀ k' i', k' ≠ 9 → τ k' i' = σ k' i') → OwnED (σ 8 0) C (lo (σ 18 0 p)) (hi (σ 18 0 p)) B w 0 (τ 9 0) → P 19 [.inr (3, 0), .inl p, .inl 1, .inl w] [] τ := by
    intro n
    induction n with
    | zero =>
      intro w τ hn0 w0 w1 e1 e2
      have ew : w = hi (σ 18 0 p) + 1 := by omega
      subst ew
      have e3 : τ 18 0 p = σ 18 0 p := by rw [e1 18 0 (by decide)]
      have X := hq τ e1 e2
      (refine go (t := tb_X2_addOwnCosts) (WPd_mono d) hP 90 [19, 45] ?_; (conv => whnf); (repeat' (first | (refine ⟨fun _ => ?_, fun _ => ?_⟩ <;> first | (exfalso; omega) | (conv => whnf)) | (refine ⟨by omega, ?_⟩; conv => whnf) | (intro _; conv => whnf))))
      refine t_X0_mostOwn (by omega) (by omega) ?_
      rw [e3]
      ((conv => whnf); (repeat' (first | (refine ⟨fun _ => ?_, fun _ => ?_⟩ <;> first | (exfalso; omega) | (conv => whnf)) | (refine ⟨by omega, ?_⟩; conv => whnf) | (intro _; conv => whnf))))
      exact X
    | succ n ih =>
      intro w τ hn0 w0 w1 e1 e2
      have e3 : τ 18 0 p = σ 18 0 p := by rw [e1 18 0 (by decide)]
      have L2 : ∀ (m : Nat) (y : Int) (ρ : Sto), m = (B + 1 - w - y).toNat → 0 ≤ y → y ≤ B + 1 → (∀ k' i', k' ≠ 9 → ρ k' i' = σ k' i') → OwnED (σ 8 0) C (lo (σ 18 0 p)) (hi (σ 18 0 p)) B w y (ρ 9 0) → P 45 [.inr (3, 0), .inl p, .inl 1, .inl w, .inl (oCst (σ 18 0 p) w (σ 23 0 0) (σ 23 0 1)), .inl y] [] ρ := by
        intro m
        induction m with
        | zero =>
          intro y ρ hm y0 y1 f1 f2
          have f3 : ρ 3 0 11 = B := by rw [f1 3 0 (by decide)]; exact hB
          have X := ih (w + 1) ρ (by omega) (by omega) (by omega) f1 (OwnED_n f2 (by omega))
          (refine go (t := tb_X2_addOwnCosts) (WPd_mono d) hP 90 [19, 45] ?_; (conv => whnf); (repeat' (first | (refine ⟨fun _ => ?_, fun _ => ?_⟩ <;> first | (exfalso; omega) | (conv => whnf)) | (refine ⟨by omega, ?_⟩; conv => whnf) | (intro _; conv => whnf))))
          (refine hT 4 ?_; exact X)
        | succ m jh =>
          intro y ρ hm y0 y1 f1 f2
          have f3 : ρ 3 0 11 = B := by rw [f1 3 0 (by decide)]; exact hB
          have bw := bo w
          have bW := hrow (y) (by omega) (by omega)
          have f8 : ρ 8 0 (y) = σ 8 0 (y) := by rw [f1 8 0 (by decide)]
          have bV := (f2 (y + w) (by omega) (by omega)).1
          have hCw : C w = oCst (σ 18 0 p) w (σ 23 0 0) (σ 23 0 1) := by rw [← hC]
          (refine go (t := tb_X2_addOwnCosts) (WPd_mono d) hP 90 [19, 45] ?_; (conv => whnf); (repeat' (first | (refine ⟨fun _ => ?_, fun _ => ?_⟩ <;> first | (exfalso; omega) | (conv => whnf)) | (refine ⟨by omega, ?_⟩; conv => whnf) | (intro _; conv => whnf))))
          rw [f8]
          refine hT 6 ?_
          refine jh (y + 1) _ (by omega) (by omega) (by omega) (fun k' i' h => by rw [up_k h]; exact f1 k' i' h) (OwnED_s f2 (by omega) (by omega) (by omega) bW.1 (by omega) (fun a => ?_))
          rw [hCw]
          by_cases e : a = y + w
          · rw [if_pos e, e, up_hit]
          · rw [if_neg e, up_j e]
      (refine go (t := tb_X2_addOwnCosts) (WPd_mono d) hP 90 [19, 45] ?_; (conv => whnf); (repeat' (first | (refine ⟨fun _ => ?_, fun _ => ?_⟩ <;> first | (exfalso; omega) | (conv => whnf)) | (refine ⟨by omega, ?_⟩; conv => whnf) | (intro _; conv => whnf))))
      refine t_X0_mostOwn (by omega) (by omega) ?_
      rw [e3]
      ((conv => whnf); (repeat' (first | (refine ⟨fun _ => ?_, fun _ => ?_⟩ <;> first | (exfalso; omega) | (conv => whnf)) | (refine ⟨by omega, ?_⟩; conv => whnf) | (intro _; conv => whnf))))
      refine t_X0_ownCost (by omega) (by omega) (by omega) ?_
      rw [e3, e1 23 0 (by decide)]
      ((conv => whnf); (repeat' (first | (refine ⟨fun _ => ?_, fun _ => ?_⟩ <;> first | (exfalso; omega) | (conv => whnf)) | (refine ⟨by omega, ?_⟩; conv => whnf) | (intro _; conv => whnf))))
      exact L2 _ 0 τ rfl (by omega) (by omega) e1 e2
  (refine go (t := tb_X2_addOwnCosts) (WPd_mono d) hP 90 [19, 45] ?_; (conv => whnf); (repeat' (first | (refine ⟨fun _ => ?_, fun _ => ?_⟩ <;> first | (exfalso; omega) | (conv => whnf)) | (refine ⟨by omega, ?_⟩; conv => whnf) | (intro _; conv => whnf))))
  refine t_X2_clearRow (by omega) rfl (by decide) (by omega) (by omega) (fun σ1 g1 g2 => ?_)
  have e3 : σ1 18 0 p = σ 18 0 p := by rw [g1 18 0 (by omega)]
  ((conv => whnf); (repeat' (first | (refine ⟨fun _ => ?_, fun _ => ?_⟩ <;> first | (exfalso; omega) | (conv => whnf)) | (refine ⟨by omega, ?_⟩; conv => whnf) | (intro _; conv => whnf))))
  refine t_X0_leastOwn (by omega) (by omega) ?_
  rw [e3]
  ((conv => whnf); (repeat' (first | (refine ⟨fun _ => ?_, fun _ => ?_⟩ <;> first | (exfalso; omega) | (conv => whnf)) | (refine ⟨by omega, ?_⟩; conv => whnf) | (intro _; conv => whnf))))
  exact L1 _ _ σ1 rfl (by omega) (by omega) (fun k' i' h => g1 k' i' (by omega)) (OwnED_0 (fun a a0 a1 => g2 a a0 (by omega)))
end
section
/-! LEAST COSTS: the step of a place, downward and upward -/
abbrev acT : Type := Int → Int → Option Int
def cAt (K : KV) (ac : acT) (B : Int) (m : Nat) (p a c : Int) : Prop := ∃ w c', ac p a = some w ∧ cont K ac B m p a c' ∧ c = c' + w
def pAt (K : KV) (ac : acT) (B : Int) (p : Nat) (a c : Int) : Prop := ∃ w c', ac (p : Int) a = some w ∧ pre K ac B p a c' ∧ c = c' + w
abbrev rngK (K : KV) (p : Int) (i : Int × Int) : Prop := (lo (K 1 p) ≤ i.1 ∧ i.1 ≤ hi (K 1 p)) ∧ (0 ≤ i.2 ∧ i.2 ≤ K 2 p)
abbrev stK (K : KV) (p : Int) (i : Int × Int) : Int := oK K p i.1 + i.2 * K 6 2
theorem cont_S {K : KV} {ac : acT} {B : Int} {m : Nat} {p a c : Int} : cont K ac B (m + 1) p a c ↔ ∃ i : Int × Int, (rngK K p i ∧ a + i.1 + i.2 ≤ B) ∧ ∃ c', cAt K ac B m (p + 1) (a + i.1 + i.2) c' ∧ c = c' + stK K p i := by
  constructor
  · rintro ⟨o, g, w, c', ho, hg, hb, hw, hc, e⟩
    refine ⟨(o, g), ⟨⟨ho, hg⟩, hb⟩, c' + w, ⟨w, c', hw, hc, rfl⟩, ?_⟩
    dsimp only [stK]
    omega
  · rintro ⟨⟨o, g⟩, ⟨⟨ho, hg⟩, hb⟩, c1, ⟨w, c', hw, hc, e1⟩, e⟩
    refine ⟨o, g, w, c', ho, hg, hb, hw, hc, ?_⟩
    dsimp only [stK] at e
    omega
theorem st_b {K : KV} (hK : WFK K) {p : Int} {i : Int × Int} (hp : 0 ≤ p ∧ p < K 7 0) (hi : rngK K p i) : 0 ≤ stK K p i ∧ stK K p i ≤ 1050 := by
  have a := oK_b hK p i.1
  have b := gap_b hK hp hi.2
  dsimp only [stK]
  omega
theorem pre_b {K : KV} (hK : WFK K) {ac : acT} {B W : Int} (hac : acB ac W) : ∀ (p : Nat) (a c : Int), p ≤ K 7 0 → pre K ac B p a c → 0 ≤ a ∧ 0 ≤ c ∧ c ≤ p * (1050 + W)
  | 0, a, c, _, h => by
    obtain ⟨h1, h2⟩ : a = 0 ∧ c = 0 := h
    omega
  | p + 1, a, c, h0, h => by
    obtain ⟨o, g, w, c', a', ho, hg, ea, hb, hw, hc, rfl⟩ := h
    have ih := pre_b hK hac p _ c' (by omega) hc
    have e1 := oK_b hK p o
    have e2 := gap_b hK (p := p) (g := g) (by omega) hg
    have e3 := hac _ _ _ hw
    have e4 := lo_b (K 1 p)
    rw [show ((p + 1 : Nat) : Int) * (1050 + W) = (p : Int) * (1050 + W) + (1050 + W) by rw [show ((p + 1 : Nat) : Int) = (p : Int) + 1 by omega, Int.add_mul, Int.one_mul]]
    omega
theorem pre_S {K : KV} (hK : WFK K) {ac : acT} {B W : Int} (hac : acB ac W) {p : Nat} (hp : p < K 7 0) {a c : Int} : pre K ac B (p + 1) a c ↔ ∃ i : Int × Int, (rngK K p i ∧ 0 ≤ a - i.1 - i.2 ∧ a ≤ B) ∧ ∃ c', pAt K ac B p (a - i.1 - i.2) c' ∧ c = c' + stK K p i := by
  constructor
  · rintro ⟨o, g, w, c', a', ho, hg, ea, hb, hw, hc, e⟩
    have e' : a' = a - o - g := by omega
    subst e'
    have n := (pre_b hK hac p _ _ (by omega) hc).1
    refine ⟨(o, g), ⟨⟨ho, hg⟩, n, hb⟩, c' + w, ⟨w, c', hw, hc, rfl⟩, ?_⟩
    dsimp only [stK]
    omega
  · rintro ⟨⟨o, g⟩, ⟨⟨ho, hg⟩, hn, hb⟩, c1, ⟨w, c', hw, hc, e1⟩, e⟩
    refine ⟨o, g, w, c', a - o - g, ho, hg, by omega, hb, hw, hc, ?_⟩
    dsimp only [stK] at e
    omega
theorem Mn_at {S : Int → Prop} {N v av p a : Int} {ac : acT} (h : Mn S N v) (h0 : 0 ≤ v) (hav : (ac p a = none ∧ N ≤ av) ∨ (ac p a = some av ∧ 0 ≤ av)) (hb : ∀ c w, S c → ac p a = some w → c + w < N) : Mn (fun c => ∃ w c', ac p a = some w ∧ S c' ∧ c = c' + w) N (min N (v + av)) := by
  rcases hav with ⟨e, h1⟩ | ⟨e, h1⟩
  · have no : ∀ c, ¬ ∃ w c', ac p a = some w ∧ S c' ∧ c = c' + w := by
      rintro c ⟨w, c', q, _⟩
      rw [e] at q
      cases q
    exact ⟨fun c hc => absurd hc (no c), Or.inl ⟨by omega, no⟩⟩
  · refine ⟨?_, ?_⟩
    · rintro c ⟨w, c', q, hs, rfl⟩
      rw [e] at q
      cases q
      have := h.1 c' hs
      omega
    · rcases h.2 with ⟨a1, b1⟩ | ⟨a1, b1⟩
      · refine Or.inl ⟨by omega, ?_⟩
        rintro c ⟨w, c', q, hs, _⟩
        exact b1 c' hs
      · have := hb v av b1 e
        rw [Int.min_eq_right (by omega)]
        exact Or.inr ⟨this, av, v, e, b1, rfl⟩
abbrev BIG : Int := 268435456
def WinU (V : Int → Int) (gap miss B r a : Int) : Prop := r ≤ 268435456 ∧ (∀ g, 0 ≤ g → g ≤ miss → a + g ≤ B → r ≤ V (a + g) + g * gap) ∧ (r = 268435456 ∨ ∃ g, (0 ≤ g ∧ g ≤ miss) ∧ a + g ≤ B ∧ r = V (a + g) + g * gap)
def WinD (V : Int → Int) (gap miss r a : Int) : Prop := r ≤ 268435456 ∧ (∀ g, 0 ≤ g → g ≤ miss → 0 ≤ a - g → r ≤ V (a - g) + g * gap) ∧ (r = 268435456 ∨ ∃ g, (0 ≤ g ∧ g ≤ miss) ∧ 0 ≤ a - g ∧ r = V (a - g) + g * gap)
theorem Mn_U {K : KV} (hK : WFK K) {ac : acT} (hac : acB ac 60000) {m : Nat} {p : Int} (hp : 0 ≤ p ∧ p + (m + 1) ≤ K 7 0) {W V r : Int → Int} {B : Int} (hW : ∀ a, 0 ≤ a → a ≤ B → Mn (cAt K ac B m (p + 1) a) 268435456 (W a)) (hE : OwnEU W (fun o => oK K p o) (lo (K 1 p)) (hi (K 1 p)) B (hi (K 1 p) + 1) 0 V) (hr : ∀ a, 0 ≤ a → a ≤ B → WinU V (K 6 2) (K 2 p) B (r a) a) {a : Int} (a0 : 0 ≤ a) (a1 : a ≤ B) : Mn (cont K ac B (m + 1) p a) 268435456 (r a) := by
  have hn := hK.1
  have bl := lo_b (K 1 p)
  obtain ⟨r1, r2, r3⟩ := hr a a0 a1
  refine Mn_un (I := fun i : Int × Int => rngK K p i ∧ a + i.1 + i.2 ≤ B) (x := fun i => W (a + i.1 + i.2)) (k := fun i => stK K p i) (Si := fun i => cAt K ac B m (p + 1) (a + i.1 + i.2)) ?_ (fun c => cont_S) ?_ r1 ?_ ?_
  · rintro ⟨o, g⟩ ⟨⟨ho, hg⟩, hb⟩
    dsimp only at ho hg hb ⊢
    exact ⟨hW _ (by omega) hb, (st_b hK (by omega) ⟨ho, hg⟩).1⟩
  · intro c hc
    have := cont_b hK hac (m + 1) p a c hp.1 (by omega) hc
    omega
  · rintro ⟨o, g⟩ ⟨⟨ho, hg⟩, hb⟩
    dsimp only [stK] at ho hg hb ⊢
    have e1 := r2 g hg.1 hg.2 (by omega)
    have e2 := (hE (a + g) (by omega) (by omega)).2.1 o ho.1 ho.2 (by omega) (by omega) (by unfold pr; omega)
    rw [show a + g + o = a + o + g by omega] at e2
    dsimp only at e2
    omega
  · rcases r3 with e | ⟨g, hg, hb, e⟩
    · exact Or.inl e
    · have gb := gap_b hK (p := p) (by omega) hg
      rcases (hE (a + g) (by omega) (by omega)).2.2 with q | ⟨o, ho, h2, q⟩
      · exact Or.inl (by omega)
      · refine Or.inr ⟨(o, g), ⟨⟨ho, hg⟩, ?_⟩, ?_⟩
        · dsimp only
          omega
        · dsimp only [stK]
          rw [show a + o + g = a + g + o by omega]
          dsimp only at q
          omega
theorem Mn_D {K : KV} (hK : WFK K) {ac : acT} (hac : acB ac 60000) {p : Nat} (hp : p < K 7 0) {W V r : Int → Int} {B : Int} (hW : ∀ a, 0 ≤ a → a ≤ B → Mn (pAt K ac B p a) 268435456 (W a)) (hE : OwnED W (fun o => oK K p o) (lo (K 1 p)) (hi (K 1 p)) B (hi (K 1 p) + 1) 0 V) (hr : ∀ a, 0 ≤ a → a ≤ B → WinD V (K 6 2) (K 2 p) (r a) a) {a : Int} (a0 : 0 ≤ a) (a1 : a ≤ B) : Mn (pre K ac B (p + 1) a) 268435456 (r a) := by
  have hn := hK.1
  have bl := lo_b (K 1 p)
  obtain ⟨r1, r2, r3⟩ := hr a a0 a1
  refine Mn_un (I := fun i : Int × Int => rngK K p i ∧ 0 ≤ a - i.1 - i.2 ∧ a ≤ B) (x := fun i => W (a - i.1 - i.2)) (k := fun i => stK K p i) (Si := fun i => pAt K ac B p (a - i.1 - i.2)) ?_ (fun c => pre_S hK hac hp) ?_ r1 ?_ ?_
  · rintro ⟨o, g⟩ ⟨⟨ho, hg⟩, hn, hb⟩
    dsimp only at ho hg hn ⊢
    exact ⟨hW _ (by omega) (by omega), (st_b hK (by omega) ⟨ho, hg⟩).1⟩
  · intro c hc
    have := pre_b hK hac (p + 1) a c (by omega) hc
    omega
  · rintro ⟨o, g⟩ ⟨⟨ho, hg⟩, hn, hb⟩
    dsimp only [stK] at ho hg hn ⊢
    have e1 := r2 g hg.1 hg.2 (by omega)
    have e2 := (hE (a - g) (by omega) (by omega)).2.1 o ho.1 ho.2 (by omega) (by omega) (by unfold pr; omega)
    rw [show a - g - o = a - o - g by omega] at e2
    dsimp only at e2
    omega
  · rcases r3 with e | ⟨g, hg, hb, e⟩
    · exact Or.inl e
    · have gb := gap_b hK (p := p) (by omega) hg
      rcases (hE (a - g) (by omega) (by omega)).2.2 with q | ⟨o, ho, h2, q⟩
      · exact Or.inl (by omega)
      · refine Or.inr ⟨(o, g), ⟨⟨ho, hg⟩, ?_⟩, ?_⟩
        · dsimp only
          omega
        · dsimp only [stK]
          rw [show a - o - g = a - g - o by omega]
          dsimp only at q
          omega
theorem cAt_b {K : KV} (hK : WFK K) {ac : acT} (hac : acB ac 60000) {B : Int} {m : Nat} {p a c : Int} (hp : 0 ≤ p ∧ p + m ≤ K 7 0) (h : cAt K ac B m p a c) : 0 ≤ c ∧ c < 90000000 := by
  obtain ⟨w, c', hw, hc, rfl⟩ := h
  have n := hK.1
  have a := cont_b hK hac m p a c' hp.1 hp.2 hc
  have b := hac _ _ _ hw
  omega
theorem pAt_b {K : KV} (hK : WFK K) {ac : acT} (hac : acB ac 60000) {B : Int} {p : Nat} {a c : Int} (hp : p ≤ K 7 0) (h : pAt K ac B p a c) : 0 ≤ c ∧ c < 90000000 := by
  obtain ⟨w, c', hw, hc, rfl⟩ := h
  have n := hK.1
  have a := pre_b hK hac p a c' hp hc
  have b := hac _ _ _ hw
  omega
theorem cont_lt {K : KV} (hK : WFK K) {ac : acT} (hac : acB ac 60000) {B : Int} {m : Nat} {p a c : Int} (hp : 0 ≤ p ∧ p + m ≤ K 7 0) (h : cont K ac B m p a c) : 0 ≤ c ∧ c < 4000000 := by
  have n := hK.1
  have a := cont_b hK hac m p a c hp.1 hp.2 h
  omega
theorem pre_lt {K : KV} (hK : WFK K) {ac : acT} (hac : acB ac 60000) {B : Int} {p : Nat} {a c : Int} (hp : p ≤ K 7 0) (h : pre K ac B p a c) : 0 ≤ c ∧ c < 4000000 := by
  have n := hK.1
  have a := pre_b hK hac p a c hp h
  omega
/-- through these years goes the least cost -/
theorem thr_iff {K : KV} (hK : WFK K) {ac : acT} (hac : acB ac 60000) {B N : Int} (hN : 90000000 ≤ N) {m : Nat} {p a o g v0 v1 : Int} (hp : 0 ≤ p ∧ p + (m + 1) ≤ K 7 0) (hi : rngK K p (o, g)) (hB : a + o + g ≤ B) (h1 : Mn (cAt K ac B m (p + 1) (a + o + g)) N v1) (h0 : Mn (cont K ac B (m + 1) p a) N v0) (hv : v0 < N) : thr K ac B m p a o g ↔ oK K p o + g * K 6 2 + v1 = v0 := by
  have hs := st_b hK (p := p) (i := (o, g)) (by omega) hi
  dsimp only [stK] at hs
  have m0 : cont K ac B (m + 1) p a v0 := by
    rcases h0.2 with q | q
    · omega
    · exact q.2
  have put : ∀ c', cAt K ac B m (p + 1) (a + o + g) c' → cont K ac B (m + 1) p a (c' + (oK K p o + g * K 6 2)) := fun c' hc => cont_S.2 ⟨(o, g), ⟨hi, hB⟩, c', hc, rfl⟩
  constructor
  · rintro ⟨-, -, -, w, c', hw, hc, hl⟩
    have ca : cAt K ac B m (p + 1) (a + o + g) (c' + w) := ⟨w, c', hw, hc, rfl⟩
    have e1 := h1.1 _ ca
    have e2 := cAt_b hK hac (by omega) ca
    have m1 : cAt K ac B m (p + 1) (a + o + g) v1 := by
      rcases h1.2 with q | q
      · omega
      · exact q.2
    have e3 := h0.1 _ (put _ m1)
    have e4 := hl _ m0
    omega
  · intro e
    have m1 : cAt K ac B m (p + 1) (a + o + g) v1 := by
      rcases h1.2 with q | q
      · omega
      · exact q.2
    obtain ⟨w, c', hw, hc, e5⟩ := m1
    refine ⟨hi.1, hi.2, hB, w, c', hw, hc, fun c hc' => ?_⟩
    have := h0.1 c hc'
    omega
theorem thr_ex {K : KV} (hK : WFK K) {ac : acT} (hac : acB ac 60000) {B N : Int} {m : Nat} {p a v0 : Int} (h0 : Mn (cont K ac B (m + 1) p a) N v0) (hv : v0 < N) : ∃ o g, thr K ac B m p a o g := by
  have m0 : cont K ac B (m + 1) p a v0 := by
    rcases h0.2 with q | q
    · omega
    · exact q.2
  obtain ⟨o, g, w, c', ho, hg, hb, hw, hc, e⟩ := m0
  exact ⟨o, g, ho, hg, hb, w, c', hw, hc, fun c hc' => by have := h0.1 c hc'; omega⟩
end
section
/-! THE RECKONING: missing years by a queue -/
def QI (F : Int → Int) (G M : Int) (q : Int → Int) (f e s : Int) : Prop := (∀ i, f ≤ i → i < e → 0 ≤ q i ∧ q i < s) ∧ (∀ i j, f ≤ i → i ≤ j → j < e → F (q i) - q i * G ≤ F (q j) - q j * G) ∧ (∀ y, 0 ≤ y → s - 1 - M ≤ y → y < s → ∃ i, f ≤ i ∧ i < e ∧ y ≤ q i ∧ F (q i) - q i * G ≤ F y - y * G)
def QP (F : Int → Int) (G M : Int) (q : Int → Int) (f e s : Int) : Prop := (∀ i, f ≤ i → i < e → 0 ≤ q i ∧ q i < s) ∧ (∀ i j, f ≤ i → i ≤ j → j < e → F (q i) - q i * G ≤ F (q j) - q j * G) ∧ (∀ y, 0 ≤ y → s - M ≤ y → y < s → (∃ i, f ≤ i ∧ i < e ∧ y ≤ q i ∧ F (q i) - q i * G ≤ F y - y * G) ∨ F s - s * G ≤ F y - y * G)
theorem QI_P {F : Int → Int} {G M : Int} {q : Int → Int} {f e s : Int} (h : QI F G M q f e s) : QP F G M q f e s := ⟨h.1, h.2.1, fun y y0 y1 y2 => Or.inl (h.2.2 y y0 (by omega) y2)⟩
theorem QP_pop {F : Int → Int} {G M : Int} {q : Int → Int} {f e s : Int} (h : QP F G M q f e s) (hk : F s - s * G ≤ F (q (e - 1)) - q (e - 1) * G) : QP F G M q f (e - 1) s := by
  refine ⟨fun i i0 i1 => h.1 i i0 (by omega), fun i j i0 i1 i2 => h.2.1 i j i0 i1 (by omega), fun y y0 y1 y2 => ?_⟩
  rcases h.2.2 y y0 y1 y2 with ⟨i, i0, i1, i2, i3⟩ | z
  · by_cases c : i = e - 1
    · subst c
      exact Or.inr (by omega)
    · exact Or.inl ⟨i, i0, by omega, i2, i3⟩
  · exact Or.inr z
theorem QP_push {F : Int → Int} {G M : Int} {q q' : Int → Int} {f e s : Int} (h : QP F G M q f e s) (h0 : 0 ≤ s) (hfe : f ≤ e) (hk : f = e ∨ F (q (e - 1)) - q (e - 1) * G ≤ F s - s * G) (h1 : q' e = s) (h2 : ∀ i, i ≠ e → q' i = q i) : QI F G M q' f (e + 1) (s + 1) := by
  refine ⟨fun i i0 i1 => ?_, fun i j i0 i1 i2 => ?_, fun y y0 y1 y2 => ?_⟩
  · by_cases c : i = e
    · rw [c, h1]
      omega
    · rw [h2 i c]
      have := h.1 i i0 (by omega)
      omega
  · by_cases c : j = e
    · by_cases c2 : i = e
      · rw [c, c2]
        omega
      · rw [c, h1, h2 i c2]
        have := h.2.1 i (e - 1) i0 (by omega) (by omega)
        omega
    · rw [h2 j c, h2 i (by omega)]
      exact h.2.1 i j i0 i1 (by omega)
  · have top : F s - s * G ≤ F y - y * G → ∃ i, f ≤ i ∧ i < e + 1 ∧ y ≤ q' i ∧ F (q' i) - q' i * G ≤ F y - y * G := fun z => ⟨e, by omega, by omega, by rw [h1]; omega, by rw [h1]; exact z⟩
    by_cases c : y = s
    · exact top (by rw [c]; omega)
    · rcases h.2.2 y y0 (by omega) (by omega) with ⟨i, i0, i1, i2, i3⟩ | z
      · exact ⟨i, i0, by omega, by rw [h2 i (by omega)]; exact i2, by rw [h2 i (by omega)]; exact i3⟩
      · exact top z
theorem QI_adv {F : Int → Int} {G M : Int} {q : Int → Int} {f e s : Int} (h : QI F G M q f e (s + 1)) (hk : q f < s - M) : QI F G M q (f + 1) e (s + 1) := by
  refine ⟨fun i i0 i1 => h.1 i (by omega) i1, fun i j i0 i1 i2 => h.2.1 i j (by omega) i1 i2, fun y y0 y1 y2 => ?_⟩
  obtain ⟨i, i0, i1, i2, i3⟩ := h.2.2 y y0 y1 y2
  by_cases c : i = f
  · subst c
    omega
  · exact ⟨i, by omega, i1, i2, i3⟩
theorem QI_win {F : Int → Int} {G M : Int} {q : Int → Int} {f e s : Int} (h : QI F G M q f e (s + 1)) (hfe : f < e) : ∀ y, 0 ≤ y → s - M ≤ y → y ≤ s → F (q f) + (s - q f) * G ≤ F y + (s - y) * G := fun y y0 y1 y2 => by
  obtain ⟨i, i0, i1, i2, i3⟩ := h.2.2 y y0 (by omega) (by omega)
  have a := h.2.1 f i (by omega) i0 i1
  rw [Int.sub_mul, Int.sub_mul]
  omega
theorem WinU_of {F V : Int → Int} {G M B s r qf : Int} (hF : ∀ q, F q = V (B - q)) (hr : r = min 268435456 (F qf + (s - qf) * G)) (hy : ∀ y, 0 ≤ y → s - M ≤ y → y ≤ s → F qf + (s - qf) * G ≤ F y + (s - y) * G) (hq : 0 ≤ qf ∧ s - M ≤ qf ∧ qf ≤ s) : WinU V G M B r (B - s) := by
  refine ⟨by omega, fun g g0 g1 g2 => ?_, ?_⟩
  · have := hy (s - g) (by omega) (by omega) (by omega)
    rw [hF (s - g), show B - (s - g) = B - s + g by omega, show s - (s - g) = g by omega] at this
    omega
  · by_cases c : r = 268435456
    · exact Or.inl c
    · refine Or.inr ⟨s - qf, by omega, by omega, ?_⟩
      rw [show B - s + (s - qf) = B - qf by omega, ← hF]
      omega
theorem WinD_of {F V : Int → Int} {G M s r qf : Int} (hF : ∀ q, F q = V q) (hr : r = min 268435456 (F qf + (s - qf) * G)) (hy : ∀ y, 0 ≤ y → s - M ≤ y → y ≤ s → F qf + (s - qf) * G ≤ F y + (s - y) * G) (hq : 0 ≤ qf ∧ s - M ≤ qf ∧ qf ≤ s) : WinD V G M r s := by
  refine ⟨by omega, fun g g0 g1 g2 => ?_, ?_⟩
  · have := hy (s - g) (by omega) (by omega) (by omega)
    rw [hF (s - g), show s - (s - g) = g by omega] at this
    omega
  · by_cases c : r = 268435456
    · exact Or.inl c
    · refine Or.inr ⟨s - qf, by omega, by omega, ?_⟩
      rw [show s - (s - qf) = qf by omega, ← hF]
      omega
theorem t_X2_costFromD {d : Nat} (hd : 2 ≤ d) {σ : Sto} {Q : Post} {q s : Int} (hq : 0 ≤ q ∧ q ≤ 600) (h : Q (some (.inl (σ 9 0 q + (s - q) * σ 23 0 2))) σ) : WPd d m_X2_costFrom [.inr (3, 0), .inl q, .inl s, .inl 1] σ Q := by
  obtain ⟨d, rfl⟩ : ∃ k, d = k + 1 := ⟨d - 1, by omega⟩
  intro P hP
  (refine go (t := tb_X2_costFrom) (WPd_mono d) hP 40 [] ?_; (conv => whnf); (repeat' (first | (refine ⟨fun _ => ?_, fun _ => ?_⟩ <;> first | (exfalso; omega) | (conv => whnf)) | (refine ⟨by omega, ?_⟩; conv => whnf) | (intro _; conv => whnf))))
  refine t_X0_missingCost (by omega) ?_
  ((conv => whnf); (repeat' (first | (refine ⟨fun _ => ?_, fun _ => ?_⟩ <;> first | (exfalso; omega) | (conv => whnf)) | (refine ⟨by omega, ?_⟩; conv => whnf) | (intro _; conv => whnf))))
  exact h
theorem t_X2_costFromU {d : Nat} (hd : 2 ≤ d) {σ : Sto} {Q : Post} {q s : Int} (hq : 0 ≤ σ 3 0 11 - q ∧ σ 3 0 11 - q ≤ 600) (h : Q (some (.inl (σ 9 0 (σ 3 0 11 - q) + (s - q) * σ 23 0 2))) σ) : WPd d m_X2_costFrom [.inr (3, 0), .inl q, .inl s, .inl 0] σ Q := by
  obtain ⟨d, rfl⟩ : ∃ k, d = k + 1 := ⟨d - 1, by omega⟩
  intro P hP
  (refine go (t := tb_X2_costFrom) (WPd_mono d) hP 40 [] ?_; (conv => whnf); (repeat' (first | (refine ⟨fun _ => ?_, fun _ => ?_⟩ <;> first | (exfalso; omega) | (conv => whnf)) | (refine ⟨by omega, ?_⟩; conv => whnf) | (intro _; conv => whnf))))
  refine t_X0_missingCost (by omega) ?_
  ((conv => whnf); (repeat' (first | (refine ⟨fun _ => ?_, fun _ => ?_⟩ <;> first | (exfalso; omega) | (conv => whnf)) | (refine ⟨by omega, ?_⟩; conv => whnf) | (intro _; conv => whnf))))
  exact h
theorem t_X2_addMissingCostsU {d : Nat} (hd : 3 ≤ d) {σ : Sto} {Q : Post} {K : KV} {p B : Int} {k : Nat} {c : Int} (hk : k = 24 ∨ k = 25) (hK : vwC σ 0 = K) (hw : WFK K) (hp : 0 ≤ p ∧ p < K 7 0) (hB : σ 3 0 11 = B) (ho : 0 ≤ B ∧ B ≤ 600) (hV : ∀ a, 0 ≤ a → a ≤ B → 0 ≤ σ 9 0 a ∧ σ 9 0 a ≤ 268435456) (hq : ∀ σ', (∀ k' i', k' ≠ 10 → ¬ (k' = k ∧ i' = c) → σ' k' i' = σ k' i') → (∀ a, 0 ≤ a → a ≤ B → WinU (σ 9 0) (K 6 2) (K 2 p) B (σ' k c a) a) → Q none σ') : WPd d m_X2_addMissingCosts [.inr (3, 0), .inl p, .inl 0, .inr (k, c)] σ Q := by
  obtain ⟨d, rfl⟩ : ∃ k, d = k + 1 := ⟨d - 1, by omega⟩
  refine wpd_of fun P hT hP => ?_
  have hl : lenI k = some 601 := by rcases hk with rfl | rfl <;> rfl
  subst hK
  have mb := (hw.2.2.1 p hp.1 hp.2).2.2
  rw [vw_n] at hp
  have hn := hw.1
  rw [vw_n] at hn
  obtain ⟨-, -, v2⟩ := (vw_in (σ := σ) (c := 0)).1 hp.1 hp.2
  have h62 : vwC σ 0 6 2 = σ 23 0 2 := (vw_in (σ := σ) (c := 0)).2.2 (by omega) (by omega)
  have gb := hw.2.2.2.2.2 2 (by omega) (by omega)
  obtain ⟨G, eG⟩ : ∃ G, σ 23 0 2 = G := ⟨_, rfl⟩
  obtain ⟨M, eM⟩ : ∃ M, σ 19 0 p = M := ⟨_, rfl⟩
  obtain ⟨F, hF⟩ : ∃ F : Int → Int, ∀ q, F q = σ 9 0 (B - q) := ⟨_, fun _ => rfl⟩
  rw [v2, eM] at mb
  rw [h62, eG] at gb
  rw [v2, eM, h62, eG] at hq
  have hFb : ∀ q, 0 ≤ q → q ≤ B → 0 ≤ F q ∧ F q ≤ 268435456 := fun q q0 q1 => by rw [hF]; exact hV (B - q) (by omega) (by omega)
  have L9 : ∀ (n : Nat) (s f e : Int) (ρ : Sto), n = (B + 1 - s).toNat → 0 ≤ s → s ≤ B + 1 → 0 ≤ f → f ≤ e → e ≤ s → (∀ k' i', k' ≠ 10 → ¬ (k' = k ∧ i' = c) → ρ k' i' = σ k' i') → (∀ a, B - s < a → a ≤ B → WinU (σ 9 0) G M B (ρ k c a) a) → QI F G M (ρ 10 0) f e s → P 9 [.inr (3, 0), .inl p, .inl 0, .inr (k, c), .inl f, .inl e, .inl s] [] ρ := by
    intro n
    induction n with
    | zero =>
      intro s f e ρ hn0 s0 s1 f0 f1 f2 fr dn qi
      have f3 : ρ 3 0 11 = B := by rw [fr 3 0 (by decide) (by omega)]; exact hB
      have f9 : ρ 9 0 = σ 9 0 := fr 9 0 (by decide) (by omega)
      have f23 : ρ 23 0 2 = G := by rw [fr 23 0 (by decide) (by omega)]; exact eG
      have f19 : ρ 19 0 p = M := by rw [fr 19 0 (by decide) (by omega)]; exact eM

      (refine go (t := tb_X2_addMissingCosts) (WPd_mono d) hP 60 [9, 36, 75, 87, 124] ?_; (conv => whnf); (repeat' (first | (refine ⟨fun _ => ?_, fun _ => ?_⟩ <;> first | (exfalso; omega) | (conv => whnf)) | (refine ⟨by omega, ?_⟩; conv => whnf) | (intro _; conv => whnf))))
      exact hq ρ fr (fun a a0 a1 => dn a (by omega) (by omega))
    | succ n ih =>
      intro s f' e' ρ' hn0 s0 s1 f0' f1' f2' fr' dn' qi'
      have EX : ∀ (f e : Int) (ρ : Sto), 0 ≤ f → f < e → e ≤ s + 1 → (∀ k' i', k' ≠ 10 → ¬ (k' = k ∧ i' = c) → ρ k' i' = σ k' i') → (∀ a, B - s < a → a ≤ B → WinU (σ 9 0) G M B (ρ k c a) a) → QI F G M (ρ 10 0) f e (s + 1) → s - M ≤ ρ 10 0 f → P 124 [.inr (3, 0), .inl p, .inl 0, .inr (k, c), .inl f, .inl e, .inl s, .inl (B - s)] [] ρ := by
        intro f e ρ f0 f1 f2 fr dn qi hf
        have f3 : ρ 3 0 11 = B := by rw [fr 3 0 (by decide) (by omega)]; exact hB
        have f9 : ρ 9 0 = σ 9 0 := fr 9 0 (by decide) (by omega)
        have f23 : ρ 23 0 2 = G := by rw [fr 23 0 (by decide) (by omega)]; exact eG
        have f19 : ρ 19 0 p = M := by rw [fr 19 0 (by decide) (by omega)]; exact eM

        have qb := qi.1 f (by omega) f1
        have hm := mul_b (g := s - ρ 10 0 f) (x := G) (G := 600) (X := 50) (by omega) (by omega) gb.1 gb.2
        have fb := hFb (ρ 10 0 f) qb.1 (by omega)
        (refine go (t := tb_X2_addMissingCosts) (WPd_mono d) hP 60 [9, 36, 75, 87, 124] ?_; (conv => whnf); (repeat' (first | (refine ⟨fun _ => ?_, fun _ => ?_⟩ <;> first | (exfalso; omega) | (conv => whnf)) | (refine ⟨by omega, ?_⟩; conv => whnf) | (intro _; conv => whnf))))
        refine t_X2_costFromU (by omega) (by omega) ?_
        rw [f9, f3, f23, ← hF]
        ((conv => whnf); (repeat' (first | (refine ⟨fun _ => ?_, fun _ => ?_⟩ <;> first | (exfalso; omega) | (conv => whnf)) | (refine ⟨by omega, ?_⟩; conv => whnf) | (intro _; conv => whnf))))
        simp only [hl]
        ((conv => whnf); (repeat' (first | (refine ⟨fun _ => ?_, fun _ => ?_⟩ <;> first | (exfalso; omega) | (conv => whnf)) | (refine ⟨by omega, ?_⟩; conv => whnf) | (intro _; conv => whnf))))
        refine hT 7 ?_
        refine ih (s + 1) f e _ (by omega) (by omega) (by omega) f0 (by omega) (by omega) (fun k' i' h1 h2 => ?_) (fun a a0 a1 => ?_) ?_
        · funext j
          rw [show upS ρ k c _ _ k' i' j = ρ k' i' j from if_neg fun e => h2 ⟨e.1, e.2.1⟩, fr k' i' h1 h2]
        · by_cases ea : a = (B - s)
          · subst ea
            rw [up_hit]
            exact WinU_of hF rfl (QI_win qi f1) (by omega)
          · rw [up_j ea]
            exact dn a (by omega) (by omega)
        · rw [show upS ρ k c (B - s) _ 10 0 = ρ 10 0 from up_k (by omega)]
          exact qi
      have L87 : ∀ (m : Nat) (f e : Int) (ρ : Sto), m = (e - 1 - f).toNat → 0 ≤ f → f < e → e ≤ s + 1 → (∀ k' i', k' ≠ 10 → ¬ (k' = k ∧ i' = c) → ρ k' i' = σ k' i') → (∀ a, B - s < a → a ≤ B → WinU (σ 9 0) G M B (ρ k c a) a) → QI F G M (ρ 10 0) f e (s + 1) → ρ 10 0 (e - 1) = s → P 87 [.inr (3, 0), .inl p, .inl 0, .inr (k, c), .inl f, .inl e, .inl s, .inl (B - s)] [] ρ := by
        intro m
        induction m with
        | zero =>
          intro f e ρ hm f0 f1 f2 fr dn qi hf
          have X := EX f e ρ f0 f1 f2 fr dn qi (by rw [show f = e - 1 by omega, hf]; omega)
          (refine go (t := tb_X2_addMissingCosts) (WPd_mono d) hP 60 [9, 36, 75, 87, 124] ?_; (conv => whnf); (repeat' (first | (refine ⟨fun _ => ?_, fun _ => ?_⟩ <;> first | (exfalso; omega) | (conv => whnf)) | (refine ⟨by omega, ?_⟩; conv => whnf) | (intro _; conv => whnf))))
          exact X
        | succ m jh =>
          intro f e ρ hm f0 f1 f2 fr dn qi hf
          have f3 : ρ 3 0 11 = B := by rw [fr 3 0 (by decide) (by omega)]; exact hB
          have f9 : ρ 9 0 = σ 9 0 := fr 9 0 (by decide) (by omega)
          have f23 : ρ 23 0 2 = G := by rw [fr 23 0 (by decide) (by omega)]; exact eG
          have f19 : ρ 19 0 p = M := by rw [fr 19 0 (by decide) (by omega)]; exact eM

          have qb := qi.1 f (by omega) f1
          have X := EX f e ρ f0 f1 f2 fr dn qi
          have Y := fun h => jh (f + 1) e ρ (by omega) (by omega) (by omega) f2 fr dn (QI_adv qi h) hf
          (refine go (t := tb_X2_addMissingCosts) (WPd_mono d) hP 60 [9, 36, 75, 87, 124] ?_; (conv => whnf); (repeat' (first | (refine ⟨fun _ => ?_, fun _ => ?_⟩ <;> first | (exfalso; omega) | (conv => whnf)) | (refine ⟨by omega, ?_⟩; conv => whnf) | (intro _; conv => whnf))))
          all_goals first | exact X (by omega) | exact Y (by omega)
      have L75 : ∀ (e : Int) (ρ : Sto), f' ≤ e → e ≤ s → (∀ k' i', k' ≠ 10 → ¬ (k' = k ∧ i' = c) → ρ k' i' = σ k' i') → (∀ a, B - s < a → a ≤ B → WinU (σ 9 0) G M B (ρ k c a) a) → QP F G M (ρ 10 0) f' e s → (f' = e ∨ F (ρ 10 0 (e - 1)) - ρ 10 0 (e - 1) * G ≤ F s - s * G) → P 75 [.inr (3, 0), .inl p, .inl 0, .inr (k, c), .inl f', .inl e, .inl s, .inl (B - s)] [] ρ := by
        intro e ρ f1 f2 fr dn qp hf
        (refine go (t := tb_X2_addMissingCosts) (WPd_mono d) hP 60 [9, 36, 75, 87, 124] ?_; (conv => whnf); (repeat' (first | (refine ⟨fun _ => ?_, fun _ => ?_⟩ <;> first | (exfalso; omega) | (conv => whnf)) | (refine ⟨by omega, ?_⟩; conv => whnf) | (intro _; conv => whnf))))
        refine L87 _ f' (e + 1) _ rfl (by omega) (by omega) (by omega) (fun k' i' h1 h2 => by rw [up_k h1]; exact fr k' i' h1 h2) (fun a a0 a1 => ?_) (QP_push qp (by omega) f1 hf up_hit (fun i hi => up_j hi)) (by rw [show e + 1 - 1 = e by omega]; exact up_hit)
        rw [up_k (by omega)]
        exact dn a a0 a1
      have L36 : ∀ (m : Nat) (e : Int) (ρ : Sto), m = (e - f').toNat → f' ≤ e → e ≤ s → (∀ k' i', k' ≠ 10 → ¬ (k' = k ∧ i' = c) → ρ k' i' = σ k' i') → (∀ a, B - s < a → a ≤ B → WinU (σ 9 0) G M B (ρ k c a) a) → QP F G M (ρ 10 0) f' e s → P 36 [.inr (3, 0), .inl p, .inl 0, .inr (k, c), .inl f', .inl e, .inl s, .inl (B - s)] [] ρ := by
        intro m
        induction m with
        | zero =>
          intro e ρ hm f1 f2 fr dn qp
          have X := L75 e ρ f1 f2 fr dn qp (Or.inl (by omega))
          (refine go (t := tb_X2_addMissingCosts) (WPd_mono d) hP 60 [9, 36, 75, 87, 124] ?_; (conv => whnf); (repeat' (first | (refine ⟨fun _ => ?_, fun _ => ?_⟩ <;> first | (exfalso; omega) | (conv => whnf)) | (refine ⟨by omega, ?_⟩; conv => whnf) | (intro _; conv => whnf))))
          exact X
        | succ m jh =>
          intro e ρ hm f1 f2 fr dn qp
          have f3 : ρ 3 0 11 = B := by rw [fr 3 0 (by decide) (by omega)]; exact hB
          have f9 : ρ 9 0 = σ 9 0 := fr 9 0 (by decide) (by omega)
          have f23 : ρ 23 0 2 = G := by rw [fr 23 0 (by decide) (by omega)]; exact eG
          have f19 : ρ 19 0 p = M := by rw [fr 19 0 (by decide) (by omega)]; exact eM

          have qb := qp.1 (e - 1) (by omega) (by omega)
          have hm := mul_b (g := s - ρ 10 0 (e - 1)) (x := G) (G := 600) (X := 50) (by omega) (by omega) gb.1 gb.2
          have fb := hFb (ρ 10 0 (e - 1)) qb.1 (by omega)
          have fs := hFb s (by omega) (by omega)
          have ex : (s - ρ 10 0 (e - 1)) * G = s * G - ρ 10 0 (e - 1) * G := Int.sub_mul ..
          have fw : F s = ρ 9 0 (B - s) := by rw [hF, f9]
          have X := fun h => L75 e ρ f1 f2 fr dn qp (Or.inr h)
          have Y := fun h => jh (e - 1) ρ (by omega) (by omega) (by omega) fr dn (QP_pop qp h)
          (refine go (t := tb_X2_addMissingCosts) (WPd_mono d) hP 60 [9, 36, 75, 87, 124] ?_; (conv => whnf); (repeat' (first | (refine ⟨fun _ => ?_, fun _ => ?_⟩ <;> first | (exfalso; omega) | (conv => whnf)) | (refine ⟨by omega, ?_⟩; conv => whnf) | (intro _; conv => whnf))))
          refine t_X2_costFromU (by omega) (by omega) ?_
          rw [f9, f3, f23, ← hF]
          ((conv => whnf); (repeat' (first | (refine ⟨fun _ => ?_, fun _ => ?_⟩ <;> first | (exfalso; omega) | (conv => whnf)) | (refine ⟨by omega, ?_⟩; conv => whnf) | (intro _; conv => whnf))))
          all_goals first | exact X (by omega) | exact Y (by omega)
      have f3 : ρ' 3 0 11 = B := by rw [fr' 3 0 (by decide) (by omega)]; exact hB
      have X := L36 _ e' ρ' rfl f1' f2' fr' dn' (QI_P qi')
      (refine go (t := tb_X2_addMissingCosts) (WPd_mono d) hP 60 [9, 36, 75, 87, 124] ?_; (conv => whnf); (repeat' (first | (refine ⟨fun _ => ?_, fun _ => ?_⟩ <;> first | (exfalso; omega) | (conv => whnf)) | (refine ⟨by omega, ?_⟩; conv => whnf) | (intro _; conv => whnf))))
      rw [f3]
      exact X
  (refine go (t := tb_X2_addMissingCosts) (WPd_mono d) hP 60 [9, 36, 75, 87, 124] ?_; (conv => whnf); (repeat' (first | (refine ⟨fun _ => ?_, fun _ => ?_⟩ <;> first | (exfalso; omega) | (conv => whnf)) | (refine ⟨by omega, ?_⟩; conv => whnf) | (intro _; conv => whnf))))
  refine L9 _ 0 0 0 σ rfl (by omega) (by omega) (by omega) (by omega) (by omega) (fun _ _ _ _ => rfl) (fun a a0 a1 => by omega) ⟨fun i i0 i1 => by omega, fun i j i0 i1 i2 => by omega, fun y y0 y1 y2 => by omega⟩
theorem t_X2_addMissingCostsD {d : Nat} (hd : 3 ≤ d) {σ : Sto} {Q : Post} {K : KV} {p B : Int} {k : Nat} {c : Int} (hk : k = 24 ∨ k = 25) (hK : vwC σ 0 = K) (hw : WFK K) (hp : 0 ≤ p ∧ p < K 7 0) (hB : σ 3 0 11 = B) (ho : 0 ≤ B ∧ B ≤ 600) (hV : ∀ a, 0 ≤ a → a ≤ B → 0 ≤ σ 9 0 a ∧ σ 9 0 a ≤ 268435456) (hq : ∀ σ', (∀ k' i', k' ≠ 10 → ¬ (k' = k ∧ i' = c) → σ' k' i' = σ k' i') → (∀ a, 0 ≤ a → a ≤ B → WinD (σ 9 0) (K 6 2) (K 2 p) (σ' k c a) a) → Q none σ') : WPd d m_X2_addMissingCosts [.inr (3, 0), .inl p, .inl 1, .inr (k, c)] σ Q := by
  obtain ⟨d, rfl⟩ : ∃ k, d = k + 1 := ⟨d - 1, by omega⟩
  refine wpd_of fun P hT hP => ?_
  have hl : lenI k = some 601 := by rcases hk with rfl | rfl <;> rfl
  subst hK
  have mb := (hw.2.2.1 p hp.1 hp.2).2.2
  rw [vw_n] at hp
  have hn := hw.1
  rw [vw_n] at hn
  obtain ⟨-, -, v2⟩ := (vw_in (σ := σ) (c := 0)).1 hp.1 hp.2
  have h62 : vwC σ 0 6 2 = σ 23 0 2 := (vw_in (σ := σ) (c := 0)).2.2 (by omega) (by omega)
  have gb := hw.2.2.2.2.2 2 (by omega) (by omega)
  obtain ⟨G, eG⟩ : ∃ G, σ 23 0 2 = G := ⟨_, rfl⟩
  obtain ⟨M, eM⟩ : ∃ M, σ 19 0 p = M := ⟨_, rfl⟩
  obtain ⟨F, hF⟩ : ∃ F : Int → Int, ∀ q, F q = σ 9 0 q := ⟨_, fun _ => rfl⟩
  rw [v2, eM] at mb
  rw [h62, eG] at gb
  rw [v2, eM, h62, eG] at hq
  have hFb : ∀ q, 0 ≤ q → q ≤ B → 0 ≤ F q ∧ F q ≤ 268435456 := fun q q0 q1 => by rw [hF]; exact hV q q0 q1
  have L9 : ∀ (n : Nat) (s f e : Int) (ρ : Sto), n = (B + 1 - s).toNat → 0 ≤ s → s ≤ B + 1 → 0 ≤ f → f ≤ e → e ≤ s → (∀ k' i', k' ≠ 10 → ¬ (k' = k ∧ i' = c) → ρ k' i' = σ k' i') → (∀ a, 0 ≤ a → a < s → WinD (σ 9 0) G M (ρ k c a) a) → QI F G M (ρ 10 0) f e s → P 9 [.inr (3, 0), .inl p, .inl 1, .inr (k, c), .inl f, .inl e, .inl s] [] ρ := by
    intro n
    induction n with
    | zero =>
      intro s f e ρ hn0 s0 s1 f0 f1 f2 fr dn qi
      have f3 : ρ 3 0 11 = B := by rw [fr 3 0 (by decide) (by omega)]; exact hB
      have f9 : ρ 9 0 = σ 9 0 := fr 9 0 (by decide) (by omega)
      have f23 : ρ 23 0 2 = G := by rw [fr 23 0 (by decide) (by omega)]; exact eG
      have f19 : ρ 19 0 p = M := by rw [fr 19 0 (by decide) (by omega)]; exact eM

      (refine go (t := tb_X2_addMissingCosts) (WPd_mono d) hP 60 [9, 36, 75, 87, 124] ?_; (conv => whnf); (repeat' (first | (refine ⟨fun _ => ?_, fun _ => ?_⟩ <;> first | (exfalso; omega) | (conv => whnf)) | (refine ⟨by omega, ?_⟩; conv => whnf) | (intro _; conv => whnf))))
      exact hq ρ fr (fun a a0 a1 => dn a (by omega) (by omega))
    | succ n ih =>
      intro s f' e' ρ' hn0 s0 s1 f0' f1' f2' fr' dn' qi'
      have EX : ∀ (f e : Int) (ρ : Sto), 0 ≤ f → f < e → e ≤ s + 1 → (∀ k' i', k' ≠ 10 → ¬ (k' = k ∧ i' = c) → ρ k' i' = σ k' i') → (∀ a, 0 ≤ a → a < s → WinD (σ 9 0) G M (ρ k c a) a) → QI F G M (ρ 10 0) f e (s + 1) → s - M ≤ ρ 10 0 f → P 124 [.inr (3, 0), .inl p, .inl 1, .inr (k, c), .inl f, .inl e, .inl s, .inl s] [] ρ := by
        intro f e ρ f0 f1 f2 fr dn qi hf
        have f3 : ρ 3 0 11 = B := by rw [fr 3 0 (by decide) (by omega)]; exact hB
        have f9 : ρ 9 0 = σ 9 0 := fr 9 0 (by decide) (by omega)
        have f23 : ρ 23 0 2 = G := by rw [fr 23 0 (by decide) (by omega)]; exact eG
        have f19 : ρ 19 0 p = M := by rw [fr 19 0 (by decide) (by omega)]; exact eM

        have qb := qi.1 f (by omega) f1
        have hm := mul_b (g := s - ρ 10 0 f) (x := G) (G := 600) (X := 50) (by omega) (by omega) gb.1 gb.2
        have fb := hFb (ρ 10 0 f) qb.1 (by omega)
        (refine go (t := tb_X2_addMissingCosts) (WPd_mono d) hP 60 [9, 36, 75, 87, 124] ?_; (conv => whnf); (repeat' (first | (refine ⟨fun _ => ?_, fun _ => ?_⟩ <;> first | (exfalso; omega) | (conv => whnf)) | (refine ⟨by omega, ?_⟩; conv => whnf) | (intro _; conv => whnf))))
        refine t_X2_costFromD (by omega) (by omega) ?_
        rw [f9, f23, ← hF]
        ((conv => whnf); (repeat' (first | (refine ⟨fun _ => ?_, fun _ => ?_⟩ <;> first | (exfalso; omega) | (conv => whnf)) | (refine ⟨by omega, ?_⟩; conv => whnf) | (intro _; conv => whnf))))
        simp only [hl]
        ((conv => whnf); (repeat' (first | (refine ⟨fun _ => ?_, fun _ => ?_⟩ <;> first | (exfalso; omega) | (conv => whnf)) | (refine ⟨by omega, ?_⟩; conv => whnf) | (intro _; conv => whnf))))
        refine hT 7 ?_
        refine ih (s + 1) f e _ (by omega) (by omega) (by omega) f0 (by omega) (by omega) (fun k' i' h1 h2 => ?_) (fun a a0 a1 => ?_) ?_
        · funext j
          rw [show upS ρ k c _ _ k' i' j = ρ k' i' j from if_neg fun e => h2 ⟨e.1, e.2.1⟩, fr k' i' h1 h2]
        · by_cases ea : a = s
          · subst ea
            rw [up_hit]
            exact WinD_of hF rfl (QI_win qi f1) (by omega)
          · rw [up_j ea]
            exact dn a (by omega) (by omega)
        · rw [show upS ρ k c s _ 10 0 = ρ 10 0 from up_k (by omega)]
          exact qi
      have L87 : ∀ (m : Nat) (f e : Int) (ρ : Sto), m = (e - 1 - f).toNat → 0 ≤ f → f < e → e ≤ s + 1 → (∀ k' i', k' ≠ 10 → ¬ (k' = k ∧ i' = c) → ρ k' i' = σ k' i') → (∀ a, 0 ≤ a → a < s → WinD (σ 9 0) G M (ρ k c a) a) → QI F G M (ρ 10 0) f e (s + 1) → ρ 10 0 (e - 1) = s → P 87 [.inr (3, 0), .inl p, .inl 1, .inr (k, c), .inl f, .inl e, .inl s, .inl s] [] ρ := by
        intro m
        induction m with
        | zero =>
          intro f e ρ hm f0 f1 f2 fr dn qi hf
          have X := EX f e ρ f0 f1 f2 fr dn qi (by rw [show f = e - 1 by omega, hf]; omega)
          (refine go (t := tb_X2_addMissingCosts) (WPd_mono d) hP 60 [9, 36, 75, 87, 124] ?_; (conv => whnf); (repeat' (first | (refine ⟨fun _ => ?_, fun _ => ?_⟩ <;> first | (exfalso; omega) | (conv => whnf)) | (refine ⟨by omega, ?_⟩; conv => whnf) | (intro _; conv => whnf))))
          exact X
        | succ m jh =>
          intro f e ρ hm f0 f1 f2 fr dn qi hf
          have f3 : ρ 3 0 11 = B := by rw [fr 3 0 (by decide) (by omega)]; exact hB
          have f9 : ρ 9 0 = σ 9 0 := fr 9 0 (by decide) (by omega)
          have f23 : ρ 23 0 2 = G := by rw [fr 23 0 (by decide) (by omega)]; exact eG
          have f19 : ρ 19 0 p = M := by rw [fr 19 0 (by decide) (by omega)]; exact eM

          have qb := qi.1 f (by omega) f1
          have X := EX f e ρ f0 f1 f2 fr dn qi
          have Y := fun h => jh (f + 1) e ρ (by omega) (by omega) (by omega) f2 fr dn (QI_adv qi h) hf
          (refine go (t := tb_X2_addMissingCosts) (WPd_mono d) hP 60 [9, 36, 75, 87, 124] ?_; (conv => whnf); (repeat' (first | (refine ⟨fun _ => ?_, fun _ => ?_⟩ <;> first | (exfalso; omega) | (conv => whnf)) | (refine ⟨by omega, ?_⟩; conv => whnf) | (intro _; conv => whnf))))
          all_goals first | exact X (by omega) | exact Y (by omega)
      have L75 : ∀ (e : Int) (ρ : Sto), f' ≤ e → e ≤ s → (∀ k' i', k' ≠ 10 → ¬ (k' = k ∧ i' = c) → ρ k' i' = σ k' i') → (∀ a, 0 ≤ a → a < s → WinD (σ 9 0) G M (ρ k c a) a) → QP F G M (ρ 10 0) f' e s → (f' = e ∨ F (ρ 10 0 (e - 1)) - ρ 10 0 (e - 1) * G ≤ F s - s * G) → P 75 [.inr (3, 0), .inl p, .inl 1, .inr (k, c), .inl f', .inl e, .inl s, .inl s] [] ρ := by
        intro e ρ f1 f2 fr dn qp hf
        (refine go (t := tb_X2_addMissingCosts) (WPd_mono d) hP 60 [9, 36, 75, 87, 124] ?_; (conv => whnf); (repeat' (first | (refine ⟨fun _ => ?_, fun _ => ?_⟩ <;> first | (exfalso; omega) | (conv => whnf)) | (refine ⟨by omega, ?_⟩; conv => whnf) | (intro _; conv => whnf))))
        refine L87 _ f' (e + 1) _ rfl (by omega) (by omega) (by omega) (fun k' i' h1 h2 => by rw [up_k h1]; exact fr k' i' h1 h2) (fun a a0 a1 => ?_) (QP_push qp (by omega) f1 hf up_hit (fun i hi => up_j hi)) (by rw [show e + 1 - 1 = e by omega]; exact up_hit)
        rw [up_k (by omega)]
        exact dn a a0 a1
      have L36 : ∀ (m : Nat) (e : Int) (ρ : Sto), m = (e - f').toNat → f' ≤ e → e ≤ s → (∀ k' i', k' ≠ 10 → ¬ (k' = k ∧ i' = c) → ρ k' i' = σ k' i') → (∀ a, 0 ≤ a → a < s → WinD (σ 9 0) G M (ρ k c a) a) → QP F G M (ρ 10 0) f' e s → P 36 [.inr (3, 0), .inl p, .inl 1, .inr (k, c), .inl f', .inl e, .inl s, .inl s] [] ρ := by
        intro m
        induction m with
        | zero =>
          intro e ρ hm f1 f2 fr dn qp
          have X := L75 e ρ f1 f2 fr dn qp (Or.inl (by omega))
          (refine go (t := tb_X2_addMissingCosts) (WPd_mono d) hP 60 [9, 36, 75, 87, 124] ?_; (conv => whnf); (repeat' (first | (refine ⟨fun _ => ?_, fun _ => ?_⟩ <;> first | (exfalso; omega) | (conv => whnf)) | (refine ⟨by omega, ?_⟩; conv => whnf) | (intro _; conv => whnf))))
          exact X
        | succ m jh =>
          intro e ρ hm f1 f2 fr dn qp
          have f3 : ρ 3 0 11 = B := by rw [fr 3 0 (by decide) (by omega)]; exact hB
          have f9 : ρ 9 0 = σ 9 0 := fr 9 0 (by decide) (by omega)
          have f23 : ρ 23 0 2 = G := by rw [fr 23 0 (by decide) (by omega)]; exact eG
          have f19 : ρ 19 0 p = M := by rw [fr 19 0 (by decide) (by omega)]; exact eM

          have qb := qp.1 (e - 1) (by omega) (by omega)
          have hm := mul_b (g := s - ρ 10 0 (e - 1)) (x := G) (G := 600) (X := 50) (by omega) (by omega) gb.1 gb.2
          have fb := hFb (ρ 10 0 (e - 1)) qb.1 (by omega)
          have fs := hFb s (by omega) (by omega)
          have ex : (s - ρ 10 0 (e - 1)) * G = s * G - ρ 10 0 (e - 1) * G := Int.sub_mul ..
          have fw : F s = ρ 9 0 s := by rw [hF, f9]
          have X := fun h => L75 e ρ f1 f2 fr dn qp (Or.inr h)
          have Y := fun h => jh (e - 1) ρ (by omega) (by omega) (by omega) fr dn (QP_pop qp h)
          (refine go (t := tb_X2_addMissingCosts) (WPd_mono d) hP 60 [9, 36, 75, 87, 124] ?_; (conv => whnf); (repeat' (first | (refine ⟨fun _ => ?_, fun _ => ?_⟩ <;> first | (exfalso; omega) | (conv => whnf)) | (refine ⟨by omega, ?_⟩; conv => whnf) | (intro _; conv => whnf))))
          refine t_X2_costFromD (by omega) (by omega) ?_
          rw [f9, f23, ← hF]
          ((conv => whnf); (repeat' (first | (refine ⟨fun _ => ?_, fun _ => ?_⟩ <;> first | (exfalso; omega) | (conv => whnf)) | (refine ⟨by omega, ?_⟩; conv => whnf) | (intro _; conv => whnf))))
          all_goals first | exact X (by omega) | exact Y (by omega)
      have f3 : ρ' 3 0 11 = B := by rw [fr' 3 0 (by decide) (by omega)]; exact hB
      have X := L36 _ e' ρ' rfl f1' f2' fr' dn' (QI_P qi')
      (refine go (t := tb_X2_addMissingCosts) (WPd_mono d) hP 60 [9, 36, 75, 87, 124] ?_; (conv => whnf); (repeat' (first | (refine ⟨fun _ => ?_, fun _ => ?_⟩ <;> first | (exfalso; omega) | (conv => whnf)) | (refine ⟨by omega, ?_⟩; conv => whnf) | (intro _; conv => whnf))))
      
      exact X
  (refine go (t := tb_X2_addMissingCosts) (WPd_mono d) hP 60 [9, 36, 75, 87, 124] ?_; (conv => whnf); (repeat' (first | (refine ⟨fun _ => ?_, fun _ => ?_⟩ <;> first | (exfalso; omega) | (conv => whnf)) | (refine ⟨by omega, ?_⟩; conv => whnf) | (intro _; conv => whnf))))
  refine L9 _ 0 0 0 σ rfl (by omega) (by omega) (by omega) (by omega) (by omega) (fun _ _ _ _ => rfl) (fun a a0 a1 => by omega) ⟨fun i i0 i1 => by omega, fun i j i0 i1 i2 => by omega, fun y y0 y1 y2 => by omega⟩
end
section
/-! THE RECKONING: the best count, the tables -/
theorem acV_av {K : KV} (hK : WFK K) (p a : Int) : (acK K p a = none ∧ 268435456 ≤ acV K p a) ∨ (acK K p a = some (acV K p a) ∧ 0 ≤ acV K p a) := by
  have b := acK_b hK p a
  unfold acV
  cases e : acK K p a with
  | none => exact Or.inl ⟨rfl, by simp only []; omega⟩
  | some w => exact Or.inr ⟨rfl, (b w e).1⟩
theorem acK_g {K : KV} (hK : WFK K) : acB (acK K) 60000 := fun p a w e => by
  have b := acK_b hK p a w e
  omega
theorem rowC_at {K : KV} (hK : WFK K) {B : Int} {m : Nat} {p a v : Int} (hp : 0 ≤ p ∧ p + m ≤ K 7 0) (h : Mn (cont K (acK K) B m p a) 268435456 v) : Mn (cAt K (acK K) B m p a) 268435456 (min 268435456 (v + acV K p a)) :=
  Mn_at h (Mn_0 h (by omega) (fun c hc => (cont_lt hK (acK_g hK) hp hc).1)) (acV_av hK p a) (fun c w hc hw => by
    have a := cont_lt hK (acK_g hK) hp hc
    have b := acK_b hK p _ w hw
    omega)
theorem rowP_at {K : KV} (hK : WFK K) {B : Int} {p : Nat} {a v : Int} (hp : p ≤ K 7 0) (h : Mn (pre K (acK K) B p a) 268435456 v) : Mn (pAt K (acK K) B p a) 268435456 (min 268435456 (v + acV K p a)) :=
  Mn_at h (Mn_0 h (by omega) (fun c hc => (pre_lt hK (acK_g hK) hp hc).1)) (acV_av hK p a) (fun c w hc hw => by
    have a := pre_lt hK (acK_g hK) hp hc
    have b := acK_b hK p _ w hw
    omega)
theorem cAt_v {K : KV} (hK : WFK K) {B : Int} {m : Nat} {p a v : Int} (hp : 0 ≤ p ∧ p + m ≤ K 7 0) (h : Mn (cAt K (acK K) B m p a) 268435456 v) : 0 ≤ v ∧ v ≤ 268435456 := ⟨Mn_0 h (by omega) (fun c hc => (cAt_b hK (acK_g hK) hp hc).1), Mn_le h⟩
theorem cont_v {K : KV} (hK : WFK K) {B : Int} {m : Nat} {p a v : Int} (hp : 0 ≤ p ∧ p + m ≤ K 7 0) (h : Mn (cont K (acK K) B m p a) 268435456 v) : 0 ≤ v ∧ v ≤ 268435456 := ⟨Mn_0 h (by omega) (fun c hc => (cont_lt hK (acK_g hK) hp hc).1), Mn_le h⟩
theorem pAt_v {K : KV} (hK : WFK K) {B : Int} {p : Nat} {a v : Int} (hp : p ≤ K 7 0) (h : Mn (pAt K (acK K) B p a) 268435456 v) : 0 ≤ v ∧ v ≤ 268435456 := ⟨Mn_0 h (by omega) (fun c hc => (pAt_b hK (acK_g hK) hp hc).1), Mn_le h⟩
theorem pre_v {K : KV} (hK : WFK K) {B : Int} {p : Nat} {a v : Int} (hp : p ≤ K 7 0) (h : Mn (pre K (acK K) B p a) 268435456 v) : 0 ≤ v ∧ v ≤ 268435456 := ⟨Mn_0 h (by omega) (fun c hc => (pre_lt hK (acK_g hK) hp hc).1), Mn_le h⟩
theorem t_X2_chooseYears {d : Nat} (hd : 2 ≤ d) {σ : Sto} {Q : Post} {K : KV} {p a B : Int} (hK : vwC σ 0 = K) (hw : WFK K) (hp : 0 ≤ p ∧ p < K 7 0) (hB : σ 3 0 11 = B) (ho : 0 ≤ B ∧ B ≤ 600) (ha : 0 ≤ a ∧ a ≤ B) (hW : ∀ x, 0 ≤ x → x ≤ B → 0 ≤ σ 8 0 x ∧ σ 8 0 x ≤ 268435456) (hr : 0 ≤ σ 25 p a ∧ σ 25 p a ≤ 268435456) {T : Int → Int → Prop} (hT0 : ∀ o g, T o g ↔ (rngK K p (o, g) ∧ a + o + g ≤ B) ∧ oK K p o + g * K 6 2 + σ 8 0 (a + o + g) = σ 25 p a) (hex : ∃ o g, T o g) (hq : ∀ o g, T o g → (∀ o' g', T o' g' → o + g < o' + g' ∨ (o + g = o' + g' ∧ o ≤ o')) → Q none (upS (upS σ 13 0 p o) 14 0 p g)) : WPd d m_X2_chooseYears [.inr (3, 0), .inl p, .inl a] σ Q := by
  obtain ⟨d, rfl⟩ : ∃ k, d = k + 1 := ⟨d - 1, by omega⟩
  refine wpd_of fun P hT hP => ?_
  subst hK
  have mb := (hw.2.2.1 p hp.1 hp.2).2.2
  have gp := fun g => @gap_b _ hw p g hp
  have ob := oK_b hw p
  rw [vw_n] at hp
  have hn := hw.1
  rw [vw_n] at hn
  obtain ⟨-, v1, v2⟩ := (vw_in (σ := σ) (c := 0)).1 hp.1 hp.2
  have h60 : vwC σ 0 6 0 = σ 23 0 0 := (vw_in (σ := σ) (c := 0)).2.2 (by omega) (by omega)
  have h61 : vwC σ 0 6 1 = σ 23 0 1 := (vw_in (σ := σ) (c := 0)).2.2 (by omega) (by omega)
  have h62 : vwC σ 0 6 2 = σ 23 0 2 := (vw_in (σ := σ) (c := 0)).2.2 (by omega) (by omega)
  obtain ⟨G, eG⟩ : ∃ G, σ 23 0 2 = G := ⟨_, rfl⟩
  obtain ⟨M, eM⟩ : ∃ M, σ 19 0 p = M := ⟨_, rfl⟩
  unfold oK at ob hT0
  rw [v2, eM] at mb
  rw [h62, eG, v2, eM] at gp
  rw [v1, h60, h61] at ob
  unfold rngK at hT0
  rw [v1, h60, h61, v2, eM, h62, eG] at hT0
  have bl := lo_b (σ 18 0 p)
  have bh := hi_b (σ 18 0 p)
  obtain ⟨o0, g0, t0⟩ := hex
  have t0' := (hT0 o0 g0).1 t0
  dsimp only at t0'
  have L28 : ∀ (n : Nat) (y : Int), n = (min (hi (σ 18 0 p) + M) (B - a) + 1 - y).toNat → lo (σ 18 0 p) ≤ y → (∀ o g, T o g → y ≤ o + g) → P 28 [.inr (3, 0), .inl p, .inl a, .inl (min (hi (σ 18 0 p) + M) (B - a)), .inl y] [] σ := by
    intro n
    induction n with
    | zero =>
      intro y hn0 y0 iv
      have := iv o0 g0 t0
      exfalso
      omega
    | succ n ih =>
      intro y hn0 y0 iv
      have yo := iv o0 g0 t0
      have yb := hW (a + y) (by omega) (by omega)
      have L44 : ∀ (m : Nat) (w : Int), m = (hi (σ 18 0 p) + 1 - w).toNat → lo (σ 18 0 p) ≤ w → w ≤ hi (σ 18 0 p) + 1 → (∀ o g, T o g → y < o + g ∨ (y = o + g ∧ w ≤ o)) → P 44 [.inr (3, 0), .inl p, .inl a, .inl (min (hi (σ 18 0 p) + M) (B - a)), .inl y, .inl w] [] σ := by
        intro m
        induction m with
        | zero =>
          intro w hm w0 w1 iv2
          have X := ih (y + 1) (by omega) (by omega) (fun o g t => by
            have := iv2 o g t
            have q := (hT0 o g).1 t
            dsimp only at q
            omega)
          (refine go (t := tb_X2_chooseYears) (WPd_mono d) hP 90 [28, 44] ?_; (conv => whnf); (repeat' (first | (refine ⟨fun _ => ?_, fun _ => ?_⟩ <;> first | (exfalso; omega) | (conv => whnf)) | (refine ⟨by omega, ?_⟩; conv => whnf) | (intro _; conv => whnf))))
          refine t_X0_mostOwn (by omega) (by omega) ?_
          ((conv => whnf); (repeat' (first | (refine ⟨fun _ => ?_, fun _ => ?_⟩ <;> first | (exfalso; omega) | (conv => whnf)) | (refine ⟨by omega, ?_⟩; conv => whnf) | (intro _; conv => whnf))))
          (refine hT 5 ?_; exact X)
        | succ m jh =>
          intro w hm w0 w1 iv2
          have X := fun h => jh (w + 1) (by omega) (by omega) (by omega) h
          have ea : a + w + (y - w) = a + y := by omega
          have t := hT0 w (y - w)
          rw [ea] at t
          dsimp only at t
          have gw := gp (y - w)
          have ow := ob w
          have no : ¬ T w (y - w) → ∀ o g, T o g → y < o + g ∨ (y = o + g ∧ w + 1 ≤ o) := fun h o g q => by
            rcases iv2 o g q with z | ⟨z1, z2⟩
            · exact Or.inl z
            · by_cases c : o = w
              · subst c
                rw [show g = y - o by omega] at q
                exact absurd q h
              · exact Or.inr ⟨z1, by omega⟩
          (refine go (t := tb_X2_chooseYears) (WPd_mono d) hP 90 [28, 44] ?_; (conv => whnf); (repeat' (first | (refine ⟨fun _ => ?_, fun _ => ?_⟩ <;> first | (exfalso; omega) | (conv => whnf)) | (refine ⟨by omega, ?_⟩; conv => whnf) | (intro _; conv => whnf))))
          refine t_X0_mostOwn (by omega) (by omega) ?_
          ((conv => whnf); (repeat' (first | (refine ⟨fun _ => ?_, fun _ => ?_⟩ <;> first | (exfalso; omega) | (conv => whnf)) | (refine ⟨by omega, ?_⟩; conv => whnf) | (intro _; conv => whnf))))
          refine t_X0_ownCost (by omega) (by omega) (by omega) ?_
          ((conv => whnf); (repeat' (first | (refine ⟨fun _ => ?_, fun _ => ?_⟩ <;> first | (exfalso; omega) | (conv => whnf)) | (refine ⟨by omega, ?_⟩; conv => whnf) | (intro _; conv => whnf))))
          refine t_X0_missingCost (by omega) ?_
          rw [eG]
          ((conv => whnf); (repeat' (first | (refine ⟨fun _ => ?_, fun _ => ?_⟩ <;> first | (exfalso; omega) | (conv => whnf)) | (refine ⟨by omega, ?_⟩; conv => whnf) | (intro _; conv => whnf))))
          rw [eM]
          refine t_X4_isWithin (by omega) (by omega) (by omega) (by omega) (fun h => ?_) (fun h => ?_)
          · ((conv => whnf); (repeat' (first | (refine ⟨fun _ => ?_, fun _ => ?_⟩ <;> first | (exfalso; omega) | (conv => whnf)) | (refine ⟨by omega, ?_⟩; conv => whnf) | (intro _; conv => whnf))))
            · (refine hT 6 ?_; exact (X (no (fun q => by have := t.1 q; omega))))
            · exact hq w (y - w) (t.2 ⟨⟨⟨⟨by omega, by omega⟩, h⟩, by omega⟩, by omega⟩) (fun o' g' q => by
                have := iv2 o' g' q
                omega)
          · ((conv => whnf); (repeat' (first | (refine ⟨fun _ => ?_, fun _ => ?_⟩ <;> first | (exfalso; omega) | (conv => whnf)) | (refine ⟨by omega, ?_⟩; conv => whnf) | (intro _; conv => whnf))))
            (refine hT 6 ?_; exact (X (no (fun q => by have := t.1 q; omega))))
      (refine go (t := tb_X2_chooseYears) (WPd_mono d) hP 90 [28, 44] ?_; (conv => whnf); (repeat' (first | (refine ⟨fun _ => ?_, fun _ => ?_⟩ <;> first | (exfalso; omega) | (conv => whnf)) | (refine ⟨by omega, ?_⟩; conv => whnf) | (intro _; conv => whnf))))
      refine t_X0_leastOwn (by omega) (by omega) ?_
      ((conv => whnf); (repeat' (first | (refine ⟨fun _ => ?_, fun _ => ?_⟩ <;> first | (exfalso; omega) | (conv => whnf)) | (refine ⟨by omega, ?_⟩; conv => whnf) | (intro _; conv => whnf))))
      exact L44 _ _ rfl (by omega) (by omega) (fun o g t => by
        have := iv o g t
        have q := (hT0 o g).1 t
        dsimp only at q
        omega)
  (refine go (t := tb_X2_chooseYears) (WPd_mono d) hP 90 [28, 44] ?_; (conv => whnf); (repeat' (first | (refine ⟨fun _ => ?_, fun _ => ?_⟩ <;> first | (exfalso; omega) | (conv => whnf)) | (refine ⟨by omega, ?_⟩; conv => whnf) | (intro _; conv => whnf))))
  refine t_X0_mostYears (by omega) (by omega) ?_
  rw [eM]
  ((conv => whnf); (repeat' (first | (refine ⟨fun _ => ?_, fun _ => ?_⟩ <;> first | (exfalso; omega) | (conv => whnf)) | (refine ⟨by omega, ?_⟩; conv => whnf) | (intro _; conv => whnf))))
  rw [hB]
  ((conv => whnf); (repeat' (first | (refine ⟨fun _ => ?_, fun _ => ?_⟩ <;> first | (exfalso; omega) | (conv => whnf)) | (refine ⟨by omega, ?_⟩; conv => whnf) | (intro _; conv => whnf))))
  refine t_X0_leastOwn (by omega) (by omega) ?_
  ((conv => whnf); (repeat' (first | (refine ⟨fun _ => ?_, fun _ => ?_⟩ <;> first | (exfalso; omega) | (conv => whnf)) | (refine ⟨by omega, ?_⟩; conv => whnf) | (intro _; conv => whnf))))
  exact L28 _ _ rfl (by omega) (fun o g t => by
    have q := (hT0 o g).1 t
    dsimp only at q
    omega)
end
section
/-! THE RECKONING: followBest, makeBelow, makeAbove -/
def offR (σ σ' : Sto) : Prop := ∀ k i, k ≠ 3 → ¬ (8 ≤ k ∧ k ≤ 15) → k ≠ 24 → k ≠ 25 → σ' k i = σ k i
theorem offR.rf (σ : Sto) : offR σ σ := fun _ _ _ _ _ _ => rfl
theorem offR.tr {σ τ ρ : Sto} (h : offR σ τ) (h' : offR τ ρ) : offR σ ρ := fun k i a b c d => by rw [h' k i a b c d, h k i a b c d]
theorem offR.core {σ τ : Sto} (h : offR σ τ) : vwC τ 0 = vwC σ 0 := vwC_cg fun k h1 h2 => h k 0 (by omega) (by omega) (by omega) (by omega)
theorem offR.ne {σ τ : Sto} (h : ∀ k i, k ≠ 3 → ¬ (8 ≤ k ∧ k ≤ 15) → k ≠ 24 → k ≠ 25 → τ k i = σ k i) : offR σ τ := h
theorem ClassR_R {σ σ' : Sto} {K : KV} {h : Int} {HK : Int → KV} {tl : Int} {tx : Int → Int} (hC : ClassR σ K h HK tl tx) (fo : offR σ σ') (hr : RecOk σ' K) : ClassR σ' K h HK tl tx ∧ frC σ σ' := by
  obtain ⟨c1, c2, c3, c4, c5⟩ := hC
  exact ⟨⟨by rw [fo.core]; exact c1, c2, HistR_off c3 (fun k i hk => fo k i (by omega) (by omega) (by omega) (by omega)), TxtR_off c4 (fun k i hk => fo k i (by omega) (by omega) (by omega) (by omega)), hr⟩, fun k i hk => fo k i (by omega) (by omega) (by omega) (by omega)⟩
theorem t_X2_followBest {d : Nat} (hd : 3 ≤ d) {σ : Sto} {Q : Post} {K : KV} {B : Int} (hK : vwC σ 0 = K) (hw : WFK K) (hB : σ 3 0 11 = B) (ho : 0 ≤ B ∧ B ≤ 600) (hbel : ∀ p a, 0 ≤ p → p ≤ K 7 0 → 0 ≤ a → a ≤ B → Mn (cont K (acK K) B (K 7 0 - p).toNat p a) 268435456 (σ 25 p a)) (hlt : σ 25 0 0 < 268435456) (hq : ∀ σ', (∀ k' i', k' ≠ 8 → k' ≠ 13 → k' ≠ 14 → k' ≠ 15 → σ' k' i' = σ k' i') → Bst K (acK K) B (σ' 15 0) (σ' 13 0) (σ' 14 0) → Q none σ') : WPd d m_X2_followBest [.inr (3, 0)] σ Q := by
  obtain ⟨d, rfl⟩ : ∃ k, d = k + 1 := ⟨d - 1, by omega⟩
  refine wpd_of fun P hT hP => ?_
  have n1 := hw.1
  have n2 : σ 16 0 7 = K 7 0 := by rw [← hK, vw_n]
  have L : ∀ (n : Nat) (p : Int) (τ : Sto), n = (K 7 0 - p).toNat → 0 ≤ p → p ≤ K 7 0 → (∀ k' i', k' ≠ 8 → k' ≠ 13 → k' ≠ 14 → k' ≠ 15 → τ k' i' = σ k' i') → τ 15 0 0 = 0 → (0 ≤ τ 15 0 p ∧ τ 15 0 p ≤ B) → σ 25 p (τ 15 0 p) < 268435456 → (∀ q, 0 ≤ q → q < p → PkL K (acK K) B (K 7 0 - q - 1).toNat q (τ 15 0 q) (τ 13 0 q) (τ 14 0 q) ∧ τ 15 0 (q + 1) = τ 15 0 q + τ 13 0 q + τ 14 0 q) → P 9 [.inr (3, 0), .inl p] [] τ := by
    intro n
    induction n with
    | zero =>
      intro p τ hn0 p0 p1 fr a0 ab al iv
      have f16 : τ 16 0 7 = K 7 0 := by rw [fr 16 0 (by decide) (by decide) (by decide) (by decide)]; exact n2
      (refine go (t := tb_X2_followBest) (WPd_mono d) hP 60 [9] ?_; (conv => whnf); (repeat' (first | (refine ⟨fun _ => ?_, fun _ => ?_⟩ <;> first | (exfalso; omega) | (conv => whnf)) | (refine ⟨by omega, ?_⟩; conv => whnf) | (intro _; conv => whnf))))
      exact hq τ fr ⟨a0, fun q q0 q1 => iv q q0 (by omega)⟩
    | succ n ih =>
      intro p τ hn0 p0 p1 fr a0 ab al iv
      have f16 : τ 16 0 7 = K 7 0 := by rw [fr 16 0 (by decide) (by decide) (by decide) (by decide)]; exact n2
      have fK : vwC τ 0 = K := by rw [vwC_cg (σ := σ) (fun k h1 h2 => fr k 0 (by omega) (by omega) (by omega) (by omega))]; exact hK
      have f25 : ∀ i, τ 25 i = σ 25 i := fun i => fr 25 i (by decide) (by decide) (by decide) (by decide)
      have f3 : τ 3 0 11 = B := by rw [fr 3 0 (by decide) (by decide) (by decide) (by decide)]; exact hB
      obtain ⟨m, hm⟩ : ∃ m : Nat, (K 7 0 - p - 1).toNat = m := ⟨_, rfl⟩
      have hbp : ∀ a, 0 ≤ a → a ≤ B → Mn (cont K (acK K) B m (p + 1) a) 268435456 (σ 25 (p + 1) a) := fun a a0 a1 => by
        have := hbel (p + 1) a (by omega) (by omega) a0 a1
        rwa [show (K 7 0 - (p + 1)).toNat = m by omega] at this
      have hbs : Mn (cont K (acK K) B (m + 1) p (τ 15 0 p)) 268435456 (σ 25 p (τ 15 0 p)) := by
        have := hbel p (τ 15 0 p) p0 (by omega) ab.1 ab.2
        rwa [show (K 7 0 - p).toNat = m + 1 by omega] at this
      (refine go (t := tb_X2_followBest) (WPd_mono d) hP 60 [9] ?_; (conv => whnf); (repeat' (first | (refine ⟨fun _ => ?_, fun _ => ?_⟩ <;> first | (exfalso; omega) | (conv => whnf)) | (refine ⟨by omega, ?_⟩; conv => whnf) | (intro _; conv => whnf))))
      refine t_X2_addAshCosts (K := K) (B := B) (by omega) (Or.inr rfl) fK hw (by omega) f3 ho (fun a h0 h1 => ?_) (fun σ1 g1 g2 => ?_)
      · rw [f25]
        exact cont_v hw (by omega) (hbp a h0 h1)
      · ((conv => whnf); (repeat' (first | (refine ⟨fun _ => ?_, fun _ => ?_⟩ <;> first | (exfalso; omega) | (conv => whnf)) | (refine ⟨by omega, ?_⟩; conv => whnf) | (intro _; conv => whnf))))
        have e1 : σ1 15 0 = τ 15 0 := g1 15 0 (by decide)
        rw [e1]
        ((conv => whnf); (repeat' (first | (refine ⟨fun _ => ?_, fun _ => ?_⟩ <;> first | (exfalso; omega) | (conv => whnf)) | (refine ⟨by omega, ?_⟩; conv => whnf) | (intro _; conv => whnf))))
        have w1 : ∀ x, 0 ≤ x → x ≤ B → Mn (cAt K (acK K) B m (p + 1) x) 268435456 (σ1 8 0 x) := fun x x0 x1 => by
          rw [g2 x x0 x1, f25]
          exact rowC_at hw (by omega) (hbp x x0 x1)
        have e25 : σ1 25 p = σ 25 p := by rw [g1 25 p (by decide), f25]
        refine t_X2_chooseYears (K := K) (B := B) (T := thr K (acK K) B m p (τ 15 0 p)) (by omega) (by rw [vwC_cg (σ := τ) (fun k h1 h2 => g1 k 0 (by omega))]; exact fK) hw (by omega) (by rw [g1 3 0 (by decide)]; exact f3) ho ab (fun x x0 x1 => cAt_v hw (by omega) (w1 x x0 x1)) (by rw [e25]; exact cont_v hw (by omega) hbs) (fun o g => ?_) (thr_ex hw (acK_g hw) hbs al) (fun o g t1 t2 => ?_)
        · rw [e25]
          constructor
          · intro t
            have r : rngK K p (o, g) ∧ τ 15 0 p + o + g ≤ B := ⟨⟨t.1, t.2.1⟩, t.2.2.1⟩
            have bl := lo_b (K 1 p)
            have r1 := r.1
            dsimp only [rngK] at r1
            exact ⟨r, (thr_iff hw (acK_g hw) (by decide) (by omega) r.1 r.2 (w1 _ (by omega) r.2) hbs al).1 t⟩
          · rintro ⟨r, e⟩
            have bl := lo_b (K 1 p)
            have r1 := r.1
            dsimp only [rngK] at r1
            exact (thr_iff hw (acK_g hw) (by decide) (by omega) r.1 r.2 (w1 _ (by omega) r.2) hbs al).2 e
        · ((conv => whnf); (repeat' (first | (refine ⟨fun _ => ?_, fun _ => ?_⟩ <;> first | (exfalso; omega) | (conv => whnf)) | (refine ⟨by omega, ?_⟩; conv => whnf) | (intro _; conv => whnf))))
          have s15 : upS (upS σ1 13 0 p o) 14 0 p g 15 0 p = τ 15 0 p := by rw [up_k (by decide), up_k (by decide), e1]
          have s13 : upS (upS σ1 13 0 p o) 14 0 p g 13 0 p = o := by rw [up_k (by decide), up_hit]
          have s14 : upS (upS σ1 13 0 p o) 14 0 p g 14 0 p = g := up_hit
          rw [s15, s13, s14]
          have bl := lo_b (K 1 p)
          have r1 := t1.1
          have r2 := t1.2.1
          have r3 := t1.2.2.1
          obtain ⟨w, c', hw1, hc1, -⟩ := t1.2.2.2
          have lt2 : σ 25 (p + 1) (τ 15 0 p + o + g) < 268435456 := by
            have a1 := (hbp _ (by omega) r3).1 c' hc1
            have a2 := cont_lt hw (acK_g hw) (by omega) hc1
            omega
          ((conv => whnf); (repeat' (first | (refine ⟨fun _ => ?_, fun _ => ?_⟩ <;> first | (exfalso; omega) | (conv => whnf)) | (refine ⟨by omega, ?_⟩; conv => whnf) | (intro _; conv => whnf))))
          refine ih (p + 1) _ (by omega) (by omega) (by omega) (fun k' i' h8 h13 h14 h15 => ?_) ?_ ?_ ?_ (fun q q0 q1 => ?_)
          · rw [up_k h15, up_k h14, up_k h13, g1 k' i' h8]
            exact fr k' i' h8 h13 h14 h15
          · rw [up_j (by omega), up_k (by decide), up_k (by decide), e1]
            exact a0
          · rw [up_hit]
            omega
          · rw [up_hit]
            exact lt2
          · by_cases c : q = p
            · subst c
              rw [up_j (by omega), s15, up_hit, show upS (upS (upS σ1 13 0 q o) 14 0 q g) 15 0 (q + 1) (τ 15 0 q + o + g) 13 0 q = o by rw [up_k (by decide)]; exact s13, show upS (upS (upS σ1 13 0 q o) 14 0 q g) 15 0 (q + 1) (τ 15 0 q + o + g) 14 0 q = g by rw [up_k (by decide)]; exact s14, hm]
              exact ⟨⟨t1, t2⟩, rfl⟩
            · have z := iv q q0 (by omega)
              rw [up_j (by omega), up_j (by omega), show ∀ x, upS (upS σ1 13 0 p o) 14 0 p g 15 0 x = τ 15 0 x from fun x => by rw [up_k (by decide), up_k (by decide), e1], show upS (upS (upS σ1 13 0 p o) 14 0 p g) 15 0 (p + 1) (τ 15 0 p + o + g) 13 0 q = τ 13 0 q by rw [up_k (by decide), up_k (by decide), up_j c, g1 13 0 (by decide)], show upS (upS (upS σ1 13 0 p o) 14 0 p g) 15 0 (p + 1) (τ 15 0 p + o + g) 14 0 q = τ 14 0 q by rw [up_k (by decide), up_j c, up_k (by decide), g1 14 0 (by decide)], show upS (upS σ1 13 0 p o) 14 0 p g 15 0 (q + 1) = τ 15 0 (q + 1) by rw [up_k (by decide), up_k (by decide), e1]]
              exact z
  (refine go (t := tb_X2_followBest) (WPd_mono d) hP 60 [9] ?_; (conv => whnf); (repeat' (first | (refine ⟨fun _ => ?_, fun _ => ?_⟩ <;> first | (exfalso; omega) | (conv => whnf)) | (refine ⟨by omega, ?_⟩; conv => whnf) | (intro _; conv => whnf))))
  refine L _ 0 _ rfl (by omega) (by omega) (fun k' i' h8 h13 h14 h15 => up_k h15) up_hit (by rw [up_hit]; omega) (by rw [up_hit]; exact hlt) (fun q q0 q1 => by omega)
end
section
/-! THE RECKONING: the tables are made -/
def mxK (K : KV) (m : Nat) (p : Int) : Int := sumF (fun i => hi (K 1 i) + K 2 i) m p
theorem mxK_b {K : KV} (hK : WFK K) : ∀ (m : Nat) (p : Int), 0 ≤ p → p + m ≤ K 7 0 → 0 ≤ mxK K m p ∧ mxK K m p ≤ 22 * m
  | 0, p, _, _ => by
    unfold mxK sumF
    omega
  | m + 1, p, h0, h1 => by
    have ih := mxK_b hK m (p + 1) (by omega) (by omega)
    have a := hi_b (K 1 p)
    have b := (hK.2.2.1 p h0 (by omega)).2.2
    unfold mxK at ih ⊢
    unfold sumF
    omega
theorem mxK_s (K : KV) (m : Nat) (p : Int) : mxK K (m + 1) p = hi (K 1 p) + K 2 p + mxK K m (p + 1) := rfl
theorem old_e (K : KV) : old K = min 600 (mxK K (K 7 0).toNat 0) := rfl
theorem old_b {K : KV} (hK : WFK K) : 0 ≤ old K ∧ old K ≤ 600 := by
  have n := hK.1
  have a := mxK_b hK (K 7 0).toNat 0 (by omega) (by omega)
  rw [old_e]
  omega
theorem BelOk_cg {σ σ' : Sto} {K : KV} (h : BelOk σ K) (e3 : σ' 3 0 11 = σ 3 0 11) (e : ∀ k i, k = 13 ∨ k = 14 ∨ k = 15 ∨ k = 25 → σ' k i = σ k i) : BelOk σ' K := by
  unfold BelOk at h ⊢
  rw [e3, e 13 0 (by omega), e 14 0 (by omega), e 15 0 (by omega), e 25 0 (by omega)]
  simp only [e 25 _ (by omega)]
  exact h
theorem RecOk_1 {ρ : Sto} {K : KV} (h12 : ρ 3 0 12 = 1) (h13 : ρ 3 0 13 = 0) (h14 : ρ 3 0 14 = -1) (hB : BelOk ρ K) : RecOk ρ K := ⟨Or.inr h12, Or.inl h13, fun _ => hB, fun q => by omega, Or.inl h14⟩
theorem t_X2_makeBelow {d : Nat} (hd : 4 ≤ d) {σ : Sto} {Q : Post} {K : KV} (hK : vwC σ 0 = K) (hw : WFK K) (hr : RecOk σ K) (hq : ∀ σ', offR σ σ' → RecOk σ' K → σ' 3 0 12 = 1 → Q none σ') : WPd d m_X2_makeBelow [.inr (3, 0)] σ Q := by
  obtain ⟨d, rfl⟩ : ∃ k, d = k + 1 := ⟨d - 1, by omega⟩
  refine wpd_of fun P hT hP => ?_
  have n1 := hw.1
  have n2 : σ 16 0 7 = K 7 0 := by rw [← hK, vw_n]
  have ob := old_b hw
  have r12 := hr.1
  by_cases c : σ 3 0 12 = 1
  · (refine go (t := tb_X2_makeBelow) (WPd_mono d) hP 60 [15, 82] ?_; (conv => whnf); (repeat' (first | (refine ⟨fun _ => ?_, fun _ => ?_⟩ <;> first | (exfalso; omega) | (conv => whnf)) | (refine ⟨by omega, ?_⟩; conv => whnf) | (intro _; conv => whnf))))
    exact hq σ (offR.rf σ) hr c
  · have r13 : σ 3 0 13 = 0 := by
      rcases hr.2.1 with q | q
      · exact q
      · exact absurd (hr.2.2.2.1 q).1 c
    have r14 : σ 3 0 14 = -1 := by
      rcases hr.2.2.2.2 with q | q
      · exact q
      · exact absurd q.1 c
    have E : ∀ (τ : Sto), offR σ τ → τ 3 0 13 = 0 → τ 3 0 14 = -1 → BelOk τ K → Q none (upS τ 3 0 12 1) := fun τ fo t13 t14 hb => by
      refine hq _ (fun k i a1 a2 a3 a4 => by rw [up_k a1]; exact fo k i a1 a2 a3 a4) (RecOk_1 up_hit (by rw [up_j (by decide)]; exact t13) (by rw [up_j (by decide)]; exact t14) (BelOk_cg hb (up_j (by decide)) (fun k i hk => up_k (by omega)))) up_hit
    have L82 : ∀ (n : Nat) (p : Int) (τ : Sto), n = (p + 1).toNat → -1 ≤ p → p < K 7 0 → offR σ τ → τ 3 0 11 = old K → τ 3 0 13 = 0 → τ 3 0 14 = -1 → (∀ q a, p < q → q ≤ K 7 0 → 0 ≤ a → a ≤ old K → Mn (cont K (acK K) (old K) (K 7 0 - q).toNat q a) 268435456 (τ 25 q a)) → P 82 [.inr (3, 0), .inl p] [] τ := by
      intro n
      induction n with
      | zero =>
        intro p τ hn0 p0 p1 fo t11 t13 t14 iv
        have fK : vwC τ 0 = K := by rw [fo.core]; exact hK
        have z := cont_v hw (by omega) (iv 0 0 (by omega) (by omega) (by omega) (by omega))
        (refine go (t := tb_X2_makeBelow) (WPd_mono d) hP 60 [15, 82] ?_; (conv => whnf); (repeat' (first | (refine ⟨fun _ => ?_, fun _ => ?_⟩ <;> first | (exfalso; omega) | (conv => whnf)) | (refine ⟨by omega, ?_⟩; conv => whnf) | (intro _; conv => whnf))))
        · exact E τ fo t13 t14 ⟨t11, fun q a q0 q1 a0 a1 => iv q a (by omega) q1 a0 a1, fun q => by omega⟩
        · refine t_X2_followBest (by omega) fK hw t11 ob (fun q a q0 q1 => iv q a (by omega) q1) (by omega) (fun ρ g1 g2 => ?_)
          ((conv => whnf); (repeat' (first | (refine ⟨fun _ => ?_, fun _ => ?_⟩ <;> first | (exfalso; omega) | (conv => whnf)) | (refine ⟨by omega, ?_⟩; conv => whnf) | (intro _; conv => whnf))))
          refine E ρ (fun k i a1 a2 a3 a4 => by rw [g1 k i (by omega) (by omega) (by omega) (by omega)]; exact fo k i a1 a2 a3 a4) (by rw [g1 3 0 (by decide) (by decide) (by decide) (by decide)]; exact t13) (by rw [g1 3 0 (by decide) (by decide) (by decide) (by decide)]; exact t14) ⟨by rw [g1 3 0 (by decide) (by decide) (by decide) (by decide)]; exact t11, fun q a q0 q1 a0 a1 => ?_, fun _ => g2⟩
          rw [g1 25 q (by decide) (by decide) (by decide) (by decide)]
          exact iv q a (by omega) q1 a0 a1
      | succ n ih =>
        intro p τ hn0 p0 p1 fo t11 t13 t14 iv
        have fK : vwC τ 0 = K := by rw [fo.core]; exact hK
        obtain ⟨m, hm⟩ : ∃ m : Nat, (K 7 0 - p - 1).toNat = m := ⟨_, rfl⟩
        have hbp : ∀ a, 0 ≤ a → a ≤ old K → Mn (cont K (acK K) (old K) m (p + 1) a) 268435456 (τ 25 (p + 1) a) := fun a a0 a1 => by
          have := iv (p + 1) a (by omega) (by omega) a0 a1
          rwa [show (K 7 0 - (p + 1)).toNat = m by omega] at this
        (refine go (t := tb_X2_makeBelow) (WPd_mono d) hP 60 [15, 82] ?_; (conv => whnf); (repeat' (first | (refine ⟨fun _ => ?_, fun _ => ?_⟩ <;> first | (exfalso; omega) | (conv => whnf)) | (refine ⟨by omega, ?_⟩; conv => whnf) | (intro _; conv => whnf))))
        refine t_X2_addAshCosts (K := K) (B := old K) (by omega) (Or.inr rfl) fK hw (by omega) t11 ob (fun a h0 h1 => cont_v hw (by omega) (hbp a h0 h1)) (fun σ1 g1 g2 => ?_)
        ((conv => whnf); (repeat' (first | (refine ⟨fun _ => ?_, fun _ => ?_⟩ <;> first | (exfalso; omega) | (conv => whnf)) | (refine ⟨by omega, ?_⟩; conv => whnf) | (intro _; conv => whnf))))
        have w1 : ∀ x, 0 ≤ x → x ≤ old K → Mn (cAt K (acK K) (old K) m (p + 1) x) 268435456 (σ1 8 0 x) := fun x x0 x1 => by
          rw [g2 x x0 x1]
          exact rowC_at hw (by omega) (hbp x x0 x1)
        have fK1 : vwC σ1 0 = K := by rw [vwC_cg (σ := τ) (fun k h1 h2 => g1 k 0 (by omega))]; exact fK
        refine t_X2_addOwnCostsU (K := K) (B := old K) (by omega) fK1 hw (by omega) (by rw [g1 3 0 (by decide)]; exact t11) ob (fun x x0 x1 => cAt_v hw (by omega) (w1 x x0 x1)) (fun σ2 j1 j2 => ?_)
        ((conv => whnf); (repeat' (first | (refine ⟨fun _ => ?_, fun _ => ?_⟩ <;> first | (exfalso; omega) | (conv => whnf)) | (refine ⟨by omega, ?_⟩; conv => whnf) | (intro _; conv => whnf))))
        have fK2 : vwC σ2 0 = K := by rw [vwC_cg (σ := σ1) (fun k h1 h2 => j1 k 0 (by omega))]; exact fK1
        refine t_X2_addMissingCostsU (K := K) (B := old K) (by omega) (Or.inr rfl) fK2 hw (by omega) (by rw [j1 3 0 (by decide), g1 3 0 (by decide)]; exact t11) ob (fun x x0 x1 => (j2 x x0 x1).1) (fun σ3 k1 k2 => ?_)
        ((conv => whnf); (repeat' (first | (refine ⟨fun _ => ?_, fun _ => ?_⟩ <;> first | (exfalso; omega) | (conv => whnf)) | (refine ⟨by omega, ?_⟩; conv => whnf) | (intro _; conv => whnf))))
        have fr : ∀ k i, k ≠ 8 → k ≠ 9 → k ≠ 10 → ¬ (k = 25 ∧ i = p) → σ3 k i = τ k i := fun k i a b c e => by rw [k1 k i c e, j1 k i b, g1 k i a]
        refine ih (p - 1) σ3 (by omega) (by omega) (by omega) (fun k i a1 a2 a3 a4 => by rw [fr k i (by omega) (by omega) (by omega) (by omega)]; exact fo k i a1 a2 a3 a4) (by rw [fr 3 0 (by decide) (by decide) (by decide) (by omega)]; exact t11) (by rw [fr 3 0 (by decide) (by decide) (by decide) (by omega)]; exact t13) (by rw [fr 3 0 (by decide) (by decide) (by decide) (by omega)]; exact t14) (fun q a q0 q1 a0 a1 => ?_)
        by_cases c : q = p
        · subst c
          rw [show (K 7 0 - q).toNat = m + 1 by omega]
          exact Mn_U hw (acK_g hw) (by omega) w1 j2 k2 a0 a1
        · rw [fr 25 q (by decide) (by decide) (by decide) (by omega)]
          exact iv q a (by omega) q1 a0 a1
    have L15 : ∀ (n : Nat) (i : Int) (τ : Sto), n = (K 7 0 - i).toNat → 0 ≤ i → i ≤ K 7 0 → (∀ k' i', k' ≠ 3 → τ k' i' = σ k' i') → (∀ j, j ≠ 11 → τ 3 0 j = σ 3 0 j) → (0 ≤ τ 3 0 11 ∧ τ 3 0 11 ≤ 600) → min 600 (τ 3 0 11 + mxK K n i) = old K → P 15 [.inr (3, 0), .inl i] [] τ := by
      intro n
      induction n with
      | zero =>
        intro i τ hn0 i0 i1 fr f3 tb iv
        have f16 : τ 16 0 7 = K 7 0 := by rw [fr 16 0 (by decide)]; exact n2
        have t11 : τ 3 0 11 = old K := by
          rw [← iv]
          unfold mxK sumF
          omega
        (refine go (t := tb_X2_makeBelow) (WPd_mono d) hP 60 [15, 82] ?_; (conv => whnf); (repeat' (first | (refine ⟨fun _ => ?_, fun _ => ?_⟩ <;> first | (exfalso; omega) | (conv => whnf)) | (refine ⟨by omega, ?_⟩; conv => whnf) | (intro _; conv => whnf))))
        rw [f16]
        ((conv => whnf); (repeat' (first | (refine ⟨fun _ => ?_, fun _ => ?_⟩ <;> first | (exfalso; omega) | (conv => whnf)) | (refine ⟨by omega, ?_⟩; conv => whnf) | (intro _; conv => whnf))))
        refine t_X2_clearRow (by omega) rfl (by decide) (by omega) (by omega) (fun σ1 g1 g2 => ?_)
        have e16 : σ1 16 0 7 = K 7 0 := by rw [g1 16 0 (by omega)]; exact f16
        ((conv => whnf); (repeat' (first | (refine ⟨fun _ => ?_, fun _ => ?_⟩ <;> first | (exfalso; omega) | (conv => whnf)) | (refine ⟨by omega, ?_⟩; conv => whnf) | (intro _; conv => whnf))))
        rw [e16]
        ((conv => whnf); (repeat' (first | (refine ⟨fun _ => ?_, fun _ => ?_⟩ <;> first | (exfalso; omega) | (conv => whnf)) | (refine ⟨by omega, ?_⟩; conv => whnf) | (intro _; conv => whnf))))
        refine L82 _ (K 7 0 - 1) σ1 rfl (by omega) (by omega) (fun k i a1 a2 a3 a4 => by rw [g1 k i (by omega)]; exact fr k i a1) (by rw [g1 3 0 (by omega)]; exact t11) (by rw [g1 3 0 (by omega), f3 13 (by decide)]; exact r13) (by rw [g1 3 0 (by omega), f3 14 (by decide)]; exact r14) (fun q a q0 q1 a0 a1 => ?_)
        have eq : q = K 7 0 := by omega
        subst eq
        rw [show (K 7 0 - K 7 0).toNat = 0 by omega, g2 a a0 (by omega)]
        exact ⟨fun c hc => by have hc : c = 0 := hc; omega, Or.inr ⟨by decide, rfl⟩⟩
      | succ n ih =>
        intro i τ hn0 i0 i1 fr f3 tb iv
        have f16 : τ 16 0 7 = K 7 0 := by rw [fr 16 0 (by decide)]; exact n2
        have fK : vwC τ 0 = K := by rw [vwC_cg (σ := σ) (fun k h1 h2 => fr k 0 (by omega))]; exact hK
        obtain ⟨-, v1, v2⟩ := (vw_in (σ := τ) (c := 0)).1 i0 (by omega)
        rw [fK] at v1 v2
        have mb := (hw.2.2.1 i i0 (by omega)).2.2
        have hb := hi_b (K 1 i)
        have ms := mxK_b hw n (i + 1) (by omega) (by omega)
        rw [mxK_s] at iv
        (refine go (t := tb_X2_makeBelow) (WPd_mono d) hP 60 [15, 82] ?_; (conv => whnf); (repeat' (first | (refine ⟨fun _ => ?_, fun _ => ?_⟩ <;> first | (exfalso; omega) | (conv => whnf)) | (refine ⟨by omega, ?_⟩; conv => whnf) | (intro _; conv => whnf))))
        refine t_X0_mostYears (by omega) (by omega) ?_
        rw [← v1, ← v2]
        ((conv => whnf); (repeat' (first | (refine ⟨fun _ => ?_, fun _ => ?_⟩ <;> first | (exfalso; omega) | (conv => whnf)) | (refine ⟨by omega, ?_⟩; conv => whnf) | (intro _; conv => whnf))))
        refine ih (i + 1) _ (by omega) (by omega) (by omega) (fun k' i' h => by rw [up_k h]; exact fr k' i' h) (fun j h => by rw [up_j h]; exact f3 j h) (by rw [up_hit]; omega) ?_
        rw [up_hit]
        omega
    (refine go (t := tb_X2_makeBelow) (WPd_mono d) hP 60 [15, 82] ?_; (conv => whnf); (repeat' (first | (refine ⟨fun _ => ?_, fun _ => ?_⟩ <;> first | (exfalso; omega) | (conv => whnf)) | (refine ⟨by omega, ?_⟩; conv => whnf) | (intro _; conv => whnf))))
    exact L15 _ 0 _ rfl (by omega) (by omega) (fun k' i' h => up_k h) (fun j h => up_j h) (by rw [up_hit]; omega) (by rw [up_hit, Int.sub_zero, old_e, Int.zero_add])
theorem pre_0 {K : KV} {ac : acT} {B a v : Int} (hv : v = if a = 0 then 0 else 268435456) : Mn (pre K ac B 0 a) 268435456 v := by
  by_cases c : a = 0
  · rw [if_pos c] at hv
    exact ⟨fun x hx => by have := (show a = 0 ∧ x = 0 from hx); omega, Or.inr ⟨by omega, c, hv⟩⟩
  · rw [if_neg c] at hv
    exact ⟨fun x hx => absurd (show a = 0 ∧ x = 0 from hx).1 c, Or.inl ⟨hv, fun x hx => c (show a = 0 ∧ x = 0 from hx).1⟩⟩
theorem t_X2_makeAbove {d : Nat} (hd : 5 ≤ d) {σ : Sto} {Q : Post} {K : KV} (hK : vwC σ 0 = K) (hw : WFK K) (hr : RecOk σ K) (hq : ∀ σ', offR σ σ' → RecOk σ' K → σ' 3 0 12 = 1 → σ' 3 0 13 = 1 → Q none σ') : WPd d m_X2_makeAbove [.inr (3, 0)] σ Q := by
  obtain ⟨d, rfl⟩ : ∃ k, d = k + 1 := ⟨d - 1, by omega⟩
  refine wpd_of fun P hT hP => ?_
  have n1 := hw.1
  have ob := old_b hw
  (refine go (t := tb_X2_makeAbove) (WPd_mono d) hP 60 [35] ?_; (conv => whnf); (repeat' (first | (refine ⟨fun _ => ?_, fun _ => ?_⟩ <;> first | (exfalso; omega) | (conv => whnf)) | (refine ⟨by omega, ?_⟩; conv => whnf) | (intro _; conv => whnf))))
  refine t_X2_makeBelow (by omega) hK hw hr (fun τ0 o0 k0 t12 => ?_)
  have fK0 : vwC τ0 0 = K := by rw [o0.core]; exact hK
  have n2 : τ0 16 0 7 = K 7 0 := by rw [← fK0, vw_n]
  have r13 := k0.2.1
  have bl := k0.2.2.1 t12
  have t11 := bl.1
  by_cases c : τ0 3 0 13 = 1
  · ((conv => whnf); (repeat' (first | (refine ⟨fun _ => ?_, fun _ => ?_⟩ <;> first | (exfalso; omega) | (conv => whnf)) | (refine ⟨by omega, ?_⟩; conv => whnf) | (intro _; conv => whnf))))
    exact hq τ0 o0 k0 t12 c
  · have L : ∀ (n : Nat) (p : Int) (τ : Sto), n = (K 7 0 - p).toNat → 0 ≤ p → p ≤ K 7 0 → (∀ k i, k ≠ 8 → k ≠ 9 → k ≠ 10 → k ≠ 24 → τ k i = τ0 k i) → (∀ q a, 0 ≤ q → q ≤ p → 0 ≤ a → a ≤ old K → Mn (pre K (acK K) (old K) q.toNat a) 268435456 (τ 24 q a)) → P 35 [.inr (3, 0), .inl p] [] τ := by
      intro n
      induction n with
      | zero =>
        intro p τ hn0 p0 p1 fr iv
        have f16 : τ 16 0 7 = K 7 0 := by rw [fr 16 0 (by decide) (by decide) (by decide) (by decide)]; exact n2
        have f3 : τ 3 0 = τ0 3 0 := fr 3 0 (by decide) (by decide) (by decide) (by decide)
        (refine go (t := tb_X2_makeAbove) (WPd_mono d) hP 60 [35] ?_; (conv => whnf); (repeat' (first | (refine ⟨fun _ => ?_, fun _ => ?_⟩ <;> first | (exfalso; omega) | (conv => whnf)) | (refine ⟨by omega, ?_⟩; conv => whnf) | (intro _; conv => whnf))))
        have blc : BelOk (upS τ 3 0 13 1) K := BelOk_cg bl (by rw [up_j (by decide), f3]) (fun k i hk => by rw [up_k (by omega)]; exact fr k i (by omega) (by omega) (by omega) (by omega))
        have a12 : upS τ 3 0 13 1 3 0 12 = 1 := by rw [up_j (by decide), f3]; exact t12
        refine hq _ (fun k i a1 a2 a3 a4 => by rw [up_k a1, fr k i (by omega) (by omega) (by omega) (by omega)]; exact o0 k i a1 a2 a3 a4) ⟨Or.inr a12, Or.inr up_hit, fun _ => blc, fun _ => ⟨a12, fun q a q0 q1 a0 a1 => ?_⟩, ?_⟩ a12 up_hit
        · rw [up_k (by decide)]
          exact iv q a q0 (by omega) a0 a1
        · rw [up_j (by decide), up_j (by decide), up_k (by decide), f3, fr 25 0 (by decide) (by decide) (by decide) (by decide)]
          exact k0.2.2.2.2
      | succ n ih =>
        intro p τ hn0 p0 p1 fr iv
        have f16 : τ 16 0 7 = K 7 0 := by rw [fr 16 0 (by decide) (by decide) (by decide) (by decide)]; exact n2
        have f3 : τ 3 0 = τ0 3 0 := fr 3 0 (by decide) (by decide) (by decide) (by decide)
        have fK : vwC τ 0 = K := by rw [vwC_cg (σ := τ0) (fun k h1 h2 => fr k 0 (by omega) (by omega) (by omega) (by omega))]; exact fK0
        obtain ⟨m, rfl⟩ : ∃ m : Nat, p = m := ⟨p.toNat, by omega⟩
        have hbp : ∀ a, 0 ≤ a → a ≤ old K → Mn (pre K (acK K) (old K) m a) 268435456 (τ 24 m a) := fun a a0 a1 => iv m a (by omega) (by omega) a0 a1
        (refine go (t := tb_X2_makeAbove) (WPd_mono d) hP 60 [35] ?_; (conv => whnf); (repeat' (first | (refine ⟨fun _ => ?_, fun _ => ?_⟩ <;> first | (exfalso; omega) | (conv => whnf)) | (refine ⟨by omega, ?_⟩; conv => whnf) | (intro _; conv => whnf))))
        refine t_X2_addAshCosts (K := K) (B := old K) (by omega) (Or.inl rfl) fK hw (by omega) (by rw [f3]; exact t11) ob (fun a h0 h1 => pre_v hw (by omega) (hbp a h0 h1)) (fun σ1 g1 g2 => ?_)
        ((conv => whnf); (repeat' (first | (refine ⟨fun _ => ?_, fun _ => ?_⟩ <;> first | (exfalso; omega) | (conv => whnf)) | (refine ⟨by omega, ?_⟩; conv => whnf) | (intro _; conv => whnf))))
        have w1 : ∀ x, 0 ≤ x → x ≤ old K → Mn (pAt K (acK K) (old K) m x) 268435456 (σ1 8 0 x) := fun x x0 x1 => by
          rw [g2 x x0 x1]
          exact rowP_at hw (by omega) (hbp x x0 x1)
        have fK1 : vwC σ1 0 = K := by rw [vwC_cg (σ := τ) (fun k h1 h2 => g1 k 0 (by omega))]; exact fK
        refine t_X2_addOwnCostsD (K := K) (B := old K) (by omega) fK1 hw (by omega) (by rw [g1 3 0 (by decide), f3]; exact t11) ob (fun x x0 x1 => pAt_v hw (by omega) (w1 x x0 x1)) (fun σ2 j1 j2 => ?_)
        ((conv => whnf); (repeat' (first | (refine ⟨fun _ => ?_, fun _ => ?_⟩ <;> first | (exfalso; omega) | (conv => whnf)) | (refine ⟨by omega, ?_⟩; conv => whnf) | (intro _; conv => whnf))))
        have fK2 : vwC σ2 0 = K := by rw [vwC_cg (σ := σ1) (fun k h1 h2 => j1 k 0 (by omega))]; exact fK1
        refine t_X2_addMissingCostsD (K := K) (B := old K) (by omega) (Or.inl rfl) fK2 hw (by omega) (by rw [j1 3 0 (by decide), g1 3 0 (by decide), f3]; exact t11) ob (fun x x0 x1 => (j2 x x0 x1).1) (fun σ3 k1 k2 => ?_)
        ((conv => whnf); (repeat' (first | (refine ⟨fun _ => ?_, fun _ => ?_⟩ <;> first | (exfalso; omega) | (conv => whnf)) | (refine ⟨by omega, ?_⟩; conv => whnf) | (intro _; conv => whnf))))
        have fr2 : ∀ k i, k ≠ 8 → k ≠ 9 → k ≠ 10 → ¬ (k = 24 ∧ i = (m : Int) + 1) → σ3 k i = τ k i := fun k i a b c e => by rw [k1 k i c e, j1 k i b, g1 k i a]
        refine ih (m + 1) σ3 (by omega) (by omega) (by omega) (fun k i a1 a2 a3 a4 => by rw [fr2 k i a1 a2 a3 (by omega)]; exact fr k i a1 a2 a3 a4) (fun q a q0 q1 a0 a1 => ?_)
        by_cases c : q = (m : Int) + 1
        · subst c
          rw [show ((m : Int) + 1).toNat = m + 1 by omega]
          exact Mn_D hw (acK_g hw) (by omega) w1 j2 k2 a0 a1
        · rw [fr2 24 q (by decide) (by decide) (by decide) (by omega)]
          exact iv q a q0 (by omega) a0 a1
    ((conv => whnf); (repeat' (first | (refine ⟨fun _ => ?_, fun _ => ?_⟩ <;> first | (exfalso; omega) | (conv => whnf)) | (refine ⟨by omega, ?_⟩; conv => whnf) | (intro _; conv => whnf))))
    refine t_X2_clearRow (by omega) rfl (by decide) (by omega) (by omega) (fun σ1 g1 g2 => ?_)
    ((conv => whnf); (repeat' (first | (refine ⟨fun _ => ?_, fun _ => ?_⟩ <;> first | (exfalso; omega) | (conv => whnf)) | (refine ⟨by omega, ?_⟩; conv => whnf) | (intro _; conv => whnf))))
    refine L _ 0 _ rfl (by omega) (by omega) (fun k i a1 a2 a3 a4 => by rw [up_k a4]; exact g1 k i (by omega)) (fun q a q0 q1 a0 a1 => ?_)
    have e : q = 0 := by omega
    subst e
    refine pre_0 ?_
    by_cases c2 : a = 0
    · rw [if_pos c2, c2, up_hit]
    · rw [if_neg c2, up_j c2]
      exact g2 a a0 (by omega)
end
section
/-! WHAT IS ASKED, with the ages up to 600; the tables' own bound gives the same -/
def CS (K : KV) (c : Int) : Prop := cont K (acK K) 600 (K 7 0).toNat 0 0 c
def isL (S : Int → Prop) (v : Int) : Prop := S v ∧ ∀ c, S c → v ≤ c
theorem isL_u {S : Int → Prop} {v w : Int} (h : isL S v) (h' : isL S w) : v = w := by
  have a := h.2 _ h'.1
  have b := h'.2 _ h.1
  omega
theorem Mn_L {S : Int → Prop} {N v : Int} (h : Mn S N v) (hv : v < N) : isL S v := by
  rcases h.2 with q | q
  · omega
  · exact ⟨q.2, h.1⟩
theorem Mn_no {S : Int → Prop} {N v : Int} (h : Mn S N v) (hv : ¬ v < N) : ∀ c, ¬ S c := by
  rcases h.2 with q | q
  · exact q.2
  · exact absurd q.1 hv
theorem cont_B {K : KV} (hK : WFK K) {ac : acT} {B : Int} (hB : B ≤ 600) : ∀ (m : Nat) (p a c : Int), 0 ≤ p → p + m ≤ K 7 0 → (B = 600 ∨ a + mxK K m p ≤ B) → (cont K ac B m p a c ↔ cont K ac 600 m p a c)
  | 0, p, a, c, _, _, _ => Iff.rfl
  | m + 1, p, a, c, h0, h1, h => by
    by_cases q : B = 600
    · rw [q]
    · have h : a + mxK K (m + 1) p ≤ B := by
        rcases h with z | z
        · exact absurd z q
        · exact z
      rw [mxK_s] at h
      have mb := mxK_b hK m (p + 1) (by omega) (by omega)
      constructor
      · rintro ⟨o, g, w, c', ho, hg, hb, hw, hc, e⟩
        exact ⟨o, g, w, c', ho, hg, by omega, hw, (cont_B hK hB m (p + 1) _ c' (by omega) (by omega) (Or.inr (by omega))).1 hc, e⟩
      · rintro ⟨o, g, w, c', ho, hg, hb, hw, hc, e⟩
        exact ⟨o, g, w, c', ho, hg, by omega, hw, (cont_B hK hB m (p + 1) _ c' (by omega) (by omega) (Or.inr (by omega))).2 hc, e⟩
def rch (K : KV) (p a : Int) : Prop := a + mxK K (K 7 0 - p).toNat p ≤ mxK K (K 7 0).toNat 0
theorem rch_s {K : KV} (hK : WFK K) {p a o g : Int} (h0 : 0 ≤ p) (h1 : p < K 7 0) (hr : rch K p a) (hx : rngK K p (o, g)) : rch K (p + 1) (a + o + g) := by
  unfold rch at hr ⊢
  have hi2 : (lo (K 1 p) ≤ o ∧ o ≤ hi (K 1 p)) ∧ (0 ≤ g ∧ g ≤ K 2 p) := hx
  rw [show (K 7 0 - p).toNat = (K 7 0 - (p + 1)).toNat + 1 by omega, mxK_s] at hr
  omega
theorem rch_o {K : KV} (hK : WFK K) {p a : Int} (h0 : 0 ≤ p) (h1 : p ≤ K 7 0) (hr : rch K p a) : old K = 600 ∨ a + mxK K (K 7 0 - p).toNat p ≤ old K := by
  unfold rch at hr
  rw [old_e]
  omega
theorem cont_o {K : KV} (hK : WFK K) {ac : acT} {m : Nat} {p a c : Int} (h0 : 0 ≤ p) (h1 : p + m = K 7 0) (hr : rch K p a) : cont K ac (old K) m p a c ↔ cont K ac 600 m p a c := by
  have o := rch_o hK h0 (by omega) hr
  rw [show (K 7 0 - p).toNat = m by omega] at o
  exact cont_B hK (old_b hK).2 m p a c h0 (by omega) o
theorem thr_o {K : KV} (hK : WFK K) {ac : acT} {m : Nat} {p a o g : Int} (h0 : 0 ≤ p) (h1 : p + (m + 1) = K 7 0) (hr : rch K p a) : thr K ac (old K) m p a o g ↔ thr K ac 600 m p a o g := by
  have mb := mxK_b hK m (p + 1) (by omega) (by omega)
  have ob := old_b hK
  have q := rch_o hK h0 (by omega) hr
  rw [show (K 7 0 - p).toNat = m + 1 by omega, mxK_s] at q
  constructor
  · rintro ⟨r1, r2, r3, w, c', e1, e2, e3⟩
    have rs := rch_s hK h0 (by omega) hr (show rngK K p (o, g) from ⟨r1, r2⟩)
    exact ⟨r1, r2, by omega, w, c', e1, (cont_o hK (by omega) (by omega) rs).1 e2, fun c hc => e3 c ((cont_o hK h0 (by omega) hr).2 hc)⟩
  · rintro ⟨r1, r2, r3, w, c', e1, e2, e3⟩
    have rs := rch_s hK h0 (by omega) hr (show rngK K p (o, g) from ⟨r1, r2⟩)
    exact ⟨r1, r2, by omega, w, c', e1, (cont_o hK (by omega) (by omega) rs).2 e2, fun c hc => e3 c ((cont_o hK h0 (by omega) hr).1 hc)⟩
theorem rch_0 (K : KV) : rch K 0 0 := by
  unfold rch
  rw [Int.sub_zero]
  omega
theorem Bst_r {K : KV} (hK : WFK K) {ac : acT} {B : Int} {A O G : Int → Int} (h : Bst K ac B A O G) : ∀ (m : Nat), (m : Int) ≤ K 7 0 → 0 ≤ A m ∧ rch K m (A m)
  | 0, _ => by
    rw [show ((0 : Nat) : Int) = 0 from rfl, h.1]
    exact ⟨by omega, rch_0 K⟩
  | m + 1, hm => by
    have ih := Bst_r hK h m (by omega)
    have s := h.2 m (by omega) (by omega)
    have r := s.1.1
    have bl := lo_b (K 1 m)
    have r1 := r.1
    have r2 := r.2.1
    rw [show ((m + 1 : Nat) : Int) = (m : Int) + 1 by omega, s.2]
    exact ⟨by omega, rch_s hK (by omega) (by omega) ih.2 (show rngK K m (O m, G m) from ⟨r1, r2⟩)⟩
theorem Bst_o {K : KV} (hK : WFK K) {ac : acT} {A O G : Int → Int} (h : Bst K ac (old K) A O G) : Bst K ac 600 A O G := by
  refine ⟨h.1, fun p p0 p1 => ?_⟩
  obtain ⟨⟨s1, s2⟩, s3⟩ := h.2 p p0 p1
  have r := (Bst_r hK h p.toNat (by omega)).2
  rw [show (p.toNat : Int) = p by omega] at r
  refine ⟨⟨(thr_o hK p0 (by omega) r).1 s1, fun o' g' t => s2 o' g' ((thr_o hK p0 (by omega) r).2 t)⟩, s3⟩
theorem Bst_u {K : KV} {ac : acT} {B : Int} {A O G A' O' G' : Int → Int} (h : Bst K ac B A O G) (h' : Bst K ac B A' O' G') : ∀ (m : Nat), (m : Int) ≤ K 7 0 → A m = A' m ∧ ∀ q : Int, 0 ≤ q → q < m → O q = O' q ∧ G q = G' q
  | 0, _ => ⟨by rw [show ((0 : Nat) : Int) = 0 from rfl, h.1, h'.1], fun q q0 q1 => by omega⟩
  | m + 1, hm => by
    obtain ⟨i1, i2⟩ := Bst_u h h' m (by omega)
    have s := h.2 m (by omega) (by omega)
    have s' := h'.2 m (by omega) (by omega)
    rw [← i1] at s'
    have e1 := s.1.2 _ _ s'.1.1
    have e2 := s'.1.2 _ _ s.1.1
    have eo : O m = O' m := by omega
    have eg : G m = G' m := by omega
    refine ⟨?_, fun q q0 q1 => ?_⟩
    · rw [show ((m + 1 : Nat) : Int) = (m : Int) + 1 by omega, s.2, s'.2, eo, eg]
    · by_cases c : q = m
      · rw [c]
        exact ⟨eo, eg⟩
      · exact i2 q q0 (by omega)
/-- the best count's numbers, each in its range -/
theorem Bst_b {K : KV} (hK : WFK K) {ac : acT} {A O G : Int → Int} (h : Bst K ac 600 A O G) {p : Int} (p0 : 0 ≤ p) : (p ≤ K 7 0 → 0 ≤ A p ∧ A p ≤ 600) ∧ (p < K 7 0 → (lo (K 1 p) ≤ O p ∧ O p ≤ hi (K 1 p)) ∧ (0 ≤ G p ∧ G p ≤ K 2 p) ∧ A (p + 1) = A p + O p + G p) := by
  refine ⟨fun h1 => ?_, fun h1 => ?_⟩
  · have a := (Bst_r hK h p.toNat (by omega)).1
    rw [show (p.toNat : Int) = p by omega] at a
    refine ⟨a, ?_⟩
    by_cases c : p = 0
    · rw [c, h.1]
      decide
    · have s := h.2 (p - 1) (by omega) (by omega)
      have b := s.1.1.2.2.1
      rw [show p - 1 + 1 = p by omega] at s
      omega
  · have s := h.2 p p0 h1
    exact ⟨s.1.1.1, s.1.1.2.1, s.2⟩
theorem bel_0 {σ : Sto} {K : KV} (hK : WFK K) (h : BelOk σ K) : Mn (CS K) 268435456 (σ 25 0 0) := by
  have n := hK.1
  have b := h.2.1 0 0 (by omega) (by omega) (by omega) (old_b hK).1
  rw [Int.sub_zero] at b
  exact Mn_iff b (fun c => cont_o hK (by omega) (by omega) (rch_0 K))
end
section
/-! THE CLASS: cost, years, age, offset, total, rate -/
theorem RecOk_B {σ : Sto} {K : KV} (h : RecOk σ K) (h12 : σ 3 0 12 = 1) : BelOk σ K := h.2.2.1 h12
theorem t_X2_hasCount {d : Nat} (hd : 5 ≤ d) {σ : Sto} {Q : Post} {K : KV} (hK : vwC σ 0 = K) (hw : WFK K) (hr : RecOk σ K) (h1 : ∀ σ', offR σ σ' → RecOk σ' K → σ' 3 0 12 = 1 → σ' 25 0 0 < 268435456 → Mn (CS K) 268435456 (σ' 25 0 0) → Q (some (.inl 1)) σ') (h0 : ∀ σ', offR σ σ' → RecOk σ' K → (∀ c, ¬ CS K c) → Q (some (.inl 0)) σ') : WPd d m_X2_hasCount [.inr (3, 0)] σ Q := by
  obtain ⟨d, rfl⟩ : ∃ k, d = k + 1 := ⟨d - 1, by omega⟩
  intro P hP
  (refine go (t := tb_X2_hasCount) (WPd_mono d) hP 60 [] ?_; (conv => whnf); (repeat' (first | (refine ⟨fun _ => ?_, fun _ => ?_⟩ <;> first | (exfalso; omega) | (conv => whnf)) | (refine ⟨by omega, ?_⟩; conv => whnf) | (intro _; conv => whnf))))
  refine t_X2_makeBelow (by omega) hK hw hr (fun ρ fo ro t12 => ?_)
  have b0 := bel_0 hw (ro.2.2.1 t12)
  have v0 : 0 ≤ ρ 25 0 0 := Mn_0 b0 (by omega) (fun c hc => (cont_lt hw (acK_g hw) (by have := hw.1; omega) hc).1)
  have v1 := Mn_le b0
  ((conv => whnf); (repeat' (first | (refine ⟨fun _ => ?_, fun _ => ?_⟩ <;> first | (exfalso; omega) | (conv => whnf)) | (refine ⟨by omega, ?_⟩; conv => whnf) | (intro _; conv => whnf))))
  · exact h0 ρ fo ro (Mn_no b0 (by omega))
  · exact h1 ρ fo ro t12 (by omega) b0
theorem t_X2_leastCost {d : Nat} (hd : 1 ≤ d) {σ : Sto} {Q : Post} (h : Q (some (.inl (σ 25 0 0))) σ) : WPd d m_X2_leastCost [.inr (3, 0)] σ Q := by
  obtain ⟨d, rfl⟩ : ∃ k, d = k + 1 := ⟨d - 1, by omega⟩
  intro P hP
  (refine go (t := tb_X2_leastCost) (WPd_mono d) hP 60 [] ?_; (conv => whnf); (repeat' (first | (refine ⟨fun _ => ?_, fun _ => ?_⟩ <;> first | (exfalso; omega) | (conv => whnf)) | (refine ⟨by omega, ?_⟩; conv => whnf) | (intro _; conv => whnf))))
  exact h
theorem t_X4_cost {d : Nat} (hd : 6 ≤ d) {σ : Sto} {Q : Post} {K : KV} {h : Int} {HK : Int → KV} {tl : Int} {tx : Int → Int} (hC : ClassR σ K h HK tl tx) (hno : (∀ c, ¬ CS K c) → ∀ σ', ClassR σ' K h HK tl tx → frC σ σ' → Q (some (.inl (-4))) σ') (hyes : ∀ v, isL (CS K) v → ∀ σ', ClassR σ' K h HK tl tx → frC σ σ' → Q (some (.inl v)) σ') : WPd d m_X4_cost [.inr (0, 0)] σ Q := by
  obtain ⟨d, rfl⟩ : ∃ k, d = k + 1 := ⟨d - 1, by omega⟩
  intro P hP
  (refine go (t := tb_X4_cost) (WPd_mono d) hP 60 [] ?_; (conv => whnf); (repeat' (first | (refine ⟨fun _ => ?_, fun _ => ?_⟩ <;> first | (exfalso; omega) | (conv => whnf)) | (refine ⟨by omega, ?_⟩; conv => whnf) | (intro _; conv => whnf))))
  refine t_X2_hasCount (by omega) hC.1 hC.2.1 hC.2.2.2.2 (fun ρ fo ro t12 lt b0 => ?_) (fun ρ fo ro no => ?_)
  · have cr := ClassR_R hC fo ro
    ((conv => whnf); (repeat' (first | (refine ⟨fun _ => ?_, fun _ => ?_⟩ <;> first | (exfalso; omega) | (conv => whnf)) | (refine ⟨by omega, ?_⟩; conv => whnf) | (intro _; conv => whnf))))
    refine t_X2_leastCost (by omega) ?_
    ((conv => whnf); (repeat' (first | (refine ⟨fun _ => ?_, fun _ => ?_⟩ <;> first | (exfalso; omega) | (conv => whnf)) | (refine ⟨by omega, ?_⟩; conv => whnf) | (intro _; conv => whnf))))
    exact hyes _ (Mn_L b0 lt) ρ cr.1 cr.2
  · have cr := ClassR_R hC fo ro
    ((conv => whnf); (repeat' (first | (refine ⟨fun _ => ?_, fun _ => ?_⟩ <;> first | (exfalso; omega) | (conv => whnf)) | (refine ⟨by omega, ?_⟩; conv => whnf) | (intro _; conv => whnf))))
    exact hno no ρ cr.1 cr.2
theorem t_X4_years {d : Nat} (hd : 6 ≤ d) {σ : Sto} {Q : Post} {K : KV} {h : Int} {HK : Int → KV} {tl : Int} {tx : Int → Int} {i w : Int} (hC : ClassR σ K h HK tl tx) (hi : inR i) (hw0 : inR w) (hbad : ¬ ((0 ≤ i ∧ i < K 7 0) ∧ (0 ≤ w ∧ w ≤ 1)) → Q (some (.inl (-1))) σ) (hno : (0 ≤ i ∧ i < K 7 0) ∧ (0 ≤ w ∧ w ≤ 1) → (∀ c, ¬ CS K c) → ∀ σ', ClassR σ' K h HK tl tx → frC σ σ' → Q (some (.inl (-4))) σ') (hyes : (0 ≤ i ∧ i < K 7 0) ∧ (0 ≤ w ∧ w ≤ 1) → (∃ c, CS K c) → ∀ A O G, Bst K (acK K) 600 A O G → ∀ σ', ClassR σ' K h HK tl tx → frC σ σ' → Q (some (.inl (if w = 0 then O i else G i))) σ') : WPd d m_X4_years [.inr (0, 0), .inl i, .inl w] σ Q := by
  obtain ⟨d, rfl⟩ : ∃ k, d = k + 1 := ⟨d - 1, by omega⟩
  intro P hP
  obtain ⟨rfl, hw, hh, htx, hr⟩ := hC
  have hn := hw.1
  rw [vw_n] at hn hbad hno hyes
  (refine go (t := tb_X4_years) (WPd_mono d) hP 60 [] ?_; (conv => whnf); (repeat' (first | (refine ⟨fun _ => ?_, fun _ => ?_⟩ <;> first | (exfalso; omega) | (conv => whnf)) | (refine ⟨by omega, ?_⟩; conv => whnf) | (intro _; conv => whnf))))
  refine t_X4_isLayer (by omega) hi hn (fun q1 => ?_) (fun q => ?_)
  · ((conv => whnf); (repeat' (first | (refine ⟨fun _ => ?_, fun _ => ?_⟩ <;> first | (exfalso; omega) | (conv => whnf)) | (refine ⟨by omega, ?_⟩; conv => whnf) | (intro _; conv => whnf))))
    refine t_X4_isWithin (by omega) hw0 (by omega) (by omega) (fun q2 => ?_) (fun q => ?_)
    · ((conv => whnf); (repeat' (first | (refine ⟨fun _ => ?_, fun _ => ?_⟩ <;> first | (exfalso; omega) | (conv => whnf)) | (refine ⟨by omega, ?_⟩; conv => whnf) | (intro _; conv => whnf))))
      refine t_X2_hasCount (by omega) rfl hw hr (fun ρ fo ro t12 lt b0 => ?_) (fun ρ fo ro no => ?_)
      · have cr := ClassR_R ⟨rfl, hw, hh, htx, hr⟩ fo ro
        have bs := Bst_o hw ((RecOk_B ro t12).2.2 lt)
        have Y := hyes ⟨q1, q2⟩ ⟨_, (Mn_L b0 lt).1⟩ _ _ _ bs ρ cr.1 cr.2
        by_cases c : w = 0
        · rw [if_pos c] at Y
          ((conv => whnf); (repeat' (first | (refine ⟨fun _ => ?_, fun _ => ?_⟩ <;> first | (exfalso; omega) | (conv => whnf)) | (refine ⟨by omega, ?_⟩; conv => whnf) | (intro _; conv => whnf))))
          exact Y
        · rw [if_neg c] at Y
          ((conv => whnf); (repeat' (first | (refine ⟨fun _ => ?_, fun _ => ?_⟩ <;> first | (exfalso; omega) | (conv => whnf)) | (refine ⟨by omega, ?_⟩; conv => whnf) | (intro _; conv => whnf))))
          exact Y
      · have cr := ClassR_R ⟨rfl, hw, hh, htx, hr⟩ fo ro
        ((conv => whnf); (repeat' (first | (refine ⟨fun _ => ?_, fun _ => ?_⟩ <;> first | (exfalso; omega) | (conv => whnf)) | (refine ⟨by omega, ?_⟩; conv => whnf) | (intro _; conv => whnf))))
        exact hno ⟨q1, q2⟩ no ρ cr.1 cr.2
    · ((conv => whnf); (repeat' (first | (refine ⟨fun _ => ?_, fun _ => ?_⟩ <;> first | (exfalso; omega) | (conv => whnf)) | (refine ⟨by omega, ?_⟩; conv => whnf) | (intro _; conv => whnf))))
      exact hbad (fun e => q e.2)
  · ((conv => whnf); (repeat' (first | (refine ⟨fun _ => ?_, fun _ => ?_⟩ <;> first | (exfalso; omega) | (conv => whnf)) | (refine ⟨by omega, ?_⟩; conv => whnf) | (intro _; conv => whnf))))
    exact hbad (fun e => q e.1)
theorem t_X4_age {d : Nat} (hd : 6 ≤ d) {σ : Sto} {Q : Post} {K : KV} {h : Int} {HK : Int → KV} {tl : Int} {tx : Int → Int} {i : Int} (hC : ClassR σ K h HK tl tx) (hi : inR i) (hbad : ¬ (0 ≤ i ∧ i ≤ K 7 0) → Q (some (.inl (-1))) σ) (hno : (0 ≤ i ∧ i ≤ K 7 0) → (∀ c, ¬ CS K c) → ∀ σ', ClassR σ' K h HK tl tx → frC σ σ' → Q (some (.inl (-4))) σ') (hyes : (0 ≤ i ∧ i ≤ K 7 0) → (∃ c, CS K c) → ∀ A O G, Bst K (acK K) 600 A O G → ∀ σ', ClassR σ' K h HK tl tx → frC σ σ' → Q (some (.inl (A i))) σ') : WPd d m_X4_age [.inr (0, 0), .inl i] σ Q := by
  obtain ⟨d, rfl⟩ : ∃ k, d = k + 1 := ⟨d - 1, by omega⟩
  intro P hP
  obtain ⟨rfl, hw, hh, htx, hr⟩ := hC
  have hn := hw.1
  rw [vw_n] at hn hbad hno hyes
  (refine go (t := tb_X4_age) (WPd_mono d) hP 60 [] ?_; (conv => whnf); (repeat' (first | (refine ⟨fun _ => ?_, fun _ => ?_⟩ <;> first | (exfalso; omega) | (conv => whnf)) | (refine ⟨by omega, ?_⟩; conv => whnf) | (intro _; conv => whnf))))
  refine t_X4_isPlace (by omega) hi hn (fun q1 => ?_) (fun q => ?_)
  · ((conv => whnf); (repeat' (first | (refine ⟨fun _ => ?_, fun _ => ?_⟩ <;> first | (exfalso; omega) | (conv => whnf)) | (refine ⟨by omega, ?_⟩; conv => whnf) | (intro _; conv => whnf))))
    refine t_X2_hasCount (by omega) rfl hw hr (fun ρ fo ro t12 lt b0 => ?_) (fun ρ fo ro no => ?_)
    · have cr := ClassR_R ⟨rfl, hw, hh, htx, hr⟩ fo ro
      have bs := Bst_o hw ((RecOk_B ro t12).2.2 lt)
      ((conv => whnf); (repeat' (first | (refine ⟨fun _ => ?_, fun _ => ?_⟩ <;> first | (exfalso; omega) | (conv => whnf)) | (refine ⟨by omega, ?_⟩; conv => whnf) | (intro _; conv => whnf))))
      exact hyes q1 ⟨_, (Mn_L b0 lt).1⟩ _ _ _ bs ρ cr.1 cr.2
    · have cr := ClassR_R ⟨rfl, hw, hh, htx, hr⟩ fo ro
      ((conv => whnf); (repeat' (first | (refine ⟨fun _ => ?_, fun _ => ?_⟩ <;> first | (exfalso; omega) | (conv => whnf)) | (refine ⟨by omega, ?_⟩; conv => whnf) | (intro _; conv => whnf))))
      exact hno q1 no ρ cr.1 cr.2
  · ((conv => whnf); (repeat' (first | (refine ⟨fun _ => ?_, fun _ => ?_⟩ <;> first | (exfalso; omega) | (conv => whnf)) | (refine ⟨by omega, ?_⟩; conv => whnf) | (intro _; conv => whnf))))
    exact hbad q
theorem t_X2_offsetOf {d : Nat} (hd : 1 ≤ d) {σ : Sto} {Q : Post} {x : Int} (hx : 0 ≤ x ∧ x < 6) (hp : 0 ≤ σ 20 0 x ∧ σ 20 0 x < 51) (h : Q (some (.inl (σ 15 0 (σ 20 0 x) - σ 21 0 x))) σ) : WPd d m_X2_offsetOf [.inr (3, 0), .inl x] σ Q := by
  obtain ⟨d, rfl⟩ : ∃ k, d = k + 1 := ⟨d - 1, by omega⟩
  intro P hP
  (refine go (t := tb_X2_offsetOf) (WPd_mono d) hP 60 [] ?_; (conv => whnf); (repeat' (first | (refine ⟨fun _ => ?_, fun _ => ?_⟩ <;> first | (exfalso; omega) | (conv => whnf)) | (refine ⟨by omega, ?_⟩; conv => whnf) | (intro _; conv => whnf))))
  exact h
theorem t_X4_offset {d : Nat} (hd : 6 ≤ d) {σ : Sto} {Q : Post} {K : KV} {h : Int} {HK : Int → KV} {tl : Int} {tx : Int → Int} {x : Int} (hC : ClassR σ K h HK tl tx) (hx : inR x) (hbad : ¬ (0 ≤ x ∧ x < K 7 1) → Q (some (.inl (-1))) σ) (hno : (0 ≤ x ∧ x < K 7 1) → (∀ c, ¬ CS K c) → ∀ σ', ClassR σ' K h HK tl tx → frC σ σ' → Q (some (.inl (-4))) σ') (hyes : (0 ≤ x ∧ x < K 7 1) → (∃ c, CS K c) → ∀ A O G, Bst K (acK K) 600 A O G → ∀ σ', ClassR σ' K h HK tl tx → frC σ σ' → Q (some (.inl (100 + (A (K 3 x) - K 4 x)))) σ') : WPd d m_X4_offset [.inr (0, 0), .inl x] σ Q := by
  obtain ⟨d, rfl⟩ : ∃ k, d = k + 1 := ⟨d - 1, by omega⟩
  intro P hP
  obtain ⟨rfl, hw, hh, htx, hr⟩ := hC
  have hn := hw.2.1
  have hn0 := hw.1
  rw [vw_a] at hn hbad hno hyes
  rw [vw_n] at hn0
  (refine go (t := tb_X4_offset) (WPd_mono d) hP 60 [] ?_; (conv => whnf); (repeat' (first | (refine ⟨fun _ => ?_, fun _ => ?_⟩ <;> first | (exfalso; omega) | (conv => whnf)) | (refine ⟨by omega, ?_⟩; conv => whnf) | (intro _; conv => whnf))))
  refine t_X4_isAsh (by omega) hx hn (fun q1 => ?_) (fun q => ?_)
  · ((conv => whnf); (repeat' (first | (refine ⟨fun _ => ?_, fun _ => ?_⟩ <;> first | (exfalso; omega) | (conv => whnf)) | (refine ⟨by omega, ?_⟩; conv => whnf) | (intro _; conv => whnf))))
    refine t_X2_hasCount (by omega) rfl hw hr (fun ρ fo ro t12 lt b0 => ?_) (fun ρ fo ro no => ?_)
    · have cr := ClassR_R ⟨rfl, hw, hh, htx, hr⟩ fo ro
      have bs := Bst_o hw ((RecOk_B ro t12).2.2 lt)
      have pb := (hw.2.2.2.1 x q1.1 q1.2).1
      obtain ⟨v0, v1, v2⟩ := (vw_in (σ := σ) (c := 0)).2.1 q1.1 q1.2
      have e20 : ρ 20 0 = σ 20 0 := fo 20 0 (by decide) (by decide) (by decide) (by decide)
      have e21 : ρ 21 0 = σ 21 0 := fo 21 0 (by decide) (by decide) (by decide) (by decide)
      rw [v0, vw_n] at pb
      ((conv => whnf); (repeat' (first | (refine ⟨fun _ => ?_, fun _ => ?_⟩ <;> first | (exfalso; omega) | (conv => whnf)) | (refine ⟨by omega, ?_⟩; conv => whnf) | (intro _; conv => whnf))))
      refine t_X2_offsetOf (by omega) (by omega) (by rw [e20]; omega) ?_
      ((conv => whnf); (repeat' (first | (refine ⟨fun _ => ?_, fun _ => ?_⟩ <;> first | (exfalso; omega) | (conv => whnf)) | (refine ⟨by omega, ?_⟩; conv => whnf) | (intro _; conv => whnf))))
      have Y := hyes q1 ⟨_, (Mn_L b0 lt).1⟩ _ _ _ bs ρ cr.1 cr.2
      rw [v0, v1] at Y
      rw [e20, e21]
      exact Y
    · have cr := ClassR_R ⟨rfl, hw, hh, htx, hr⟩ fo ro
      ((conv => whnf); (repeat' (first | (refine ⟨fun _ => ?_, fun _ => ?_⟩ <;> first | (exfalso; omega) | (conv => whnf)) | (refine ⟨by omega, ?_⟩; conv => whnf) | (intro _; conv => whnf))))
      exact hno q1 no ρ cr.1 cr.2
  · ((conv => whnf); (repeat' (first | (refine ⟨fun _ => ?_, fun _ => ?_⟩ <;> first | (exfalso; omega) | (conv => whnf)) | (refine ⟨by omega, ?_⟩; conv => whnf) | (intro _; conv => whnf))))
    exact hbad q
theorem t_X2_layersWith {d : Nat} (hd : 1 ≤ d) {σ : Sto} {Q : Post} {w o : Int} (hw : inR w) (ho : inR o) (hn : 0 ≤ σ 16 0 7 ∧ σ 16 0 7 ≤ 50) (hof : ∀ i, 0 ≤ i → i < σ 16 0 7 → (σ 13 0 i = o → σ 18 0 i = w)) (h : Q (some (.inl (cntF (σ 13 0) o (σ 16 0 7).toNat 0))) σ) : WPd d m_X2_layersWith [.inr (3, 0), .inl w, .inl o] σ Q := by
  obtain ⟨d, rfl⟩ : ∃ k, d = k + 1 := ⟨d - 1, by omega⟩
  intro P hP
  have L : ∀ (n : Nat) (s i : Int), n = (σ 16 0 7 - i).toNat → 0 ≤ i → i ≤ σ 16 0 7 → Q (some (.inl (s + cntF (σ 13 0) o n i))) σ → P 5 [.inr (3, 0), .inl w, .inl o, .inl s, .inl i] [] σ := by
    intro n
    induction n with
    | zero =>
      intro s i hn0 h0 h1 hq
      (refine go (t := tb_X2_layersWith) (WPd_mono d) hP 60 [5] ?_; (conv => whnf); (repeat' (first | (refine ⟨fun _ => ?_, fun _ => ?_⟩ <;> first | (exfalso; omega) | (conv => whnf)) | (refine ⟨by omega, ?_⟩; conv => whnf) | (intro _; conv => whnf))))
      rwa [cntF, Int.add_zero] at hq
    | succ n ih =>
      intro s i hn0 h0 h1 hq
      have hi := hof i h0 (by omega)
      (refine go (t := tb_X2_layersWith) (WPd_mono d) hP 60 [5] ?_; (conv => whnf); (repeat' (first | (refine ⟨fun _ => ?_, fun _ => ?_⟩ <;> first | (exfalso; omega) | (conv => whnf)) | (refine ⟨by omega, ?_⟩; conv => whnf) | (intro _; conv => whnf))))
      · exact ih _ (i + 1) (by omega) (by omega) (by omega) (by rwa [cntF, if_neg (by omega), Int.zero_add] at hq)
      · exact ih _ (i + 1) (by omega) (by omega) (by omega) (by rwa [cntF, if_neg (by omega), Int.zero_add] at hq)
      · exact ih _ (i + 1) (by omega) (by omega) (by omega) (by rwa [cntF, if_pos (by omega), ← Int.add_assoc] at hq)
  (refine go (t := tb_X2_layersWith) (WPd_mono d) hP 60 [5] ?_; (conv => whnf); (repeat' (first | (refine ⟨fun _ => ?_, fun _ => ?_⟩ <;> first | (exfalso; omega) | (conv => whnf)) | (refine ⟨by omega, ?_⟩; conv => whnf) | (intro _; conv => whnf))))
  exact L (σ 16 0 7).toNat 0 0 (by omega) (by omega) (by omega) (by rwa [Int.zero_add])
theorem t_X2_allMissing {d : Nat} (hd : 1 ≤ d) {σ : Sto} {Q : Post} (hn : 0 ≤ σ 16 0 7 ∧ σ 16 0 7 ≤ 50) (h : Q (some (.inl (sumF (σ 14 0) (σ 16 0 7).toNat 0))) σ) : WPd d m_X2_allMissing [.inr (3, 0)] σ Q := by
  obtain ⟨d, rfl⟩ : ∃ k, d = k + 1 := ⟨d - 1, by omega⟩
  intro P hP
  have L : ∀ (n : Nat) (s i : Int), n = (σ 16 0 7 - i).toNat → 0 ≤ i → i ≤ σ 16 0 7 → Q (some (.inl (s + sumF (σ 14 0) n i))) σ → P 4 [.inr (3, 0), .inl s, .inl i] [] σ := by
    intro n
    induction n with
    | zero =>
      intro s i hn0 h0 h1 hq
      (refine go (t := tb_X2_allMissing) (WPd_mono d) hP 60 [4] ?_; (conv => whnf); (repeat' (first | (refine ⟨fun _ => ?_, fun _ => ?_⟩ <;> first | (exfalso; omega) | (conv => whnf)) | (refine ⟨by omega, ?_⟩; conv => whnf) | (intro _; conv => whnf))))
      rwa [sumF, Int.add_zero] at hq
    | succ n ih =>
      intro s i hn0 h0 h1 hq
      (refine go (t := tb_X2_allMissing) (WPd_mono d) hP 60 [4] ?_; (conv => whnf); (repeat' (first | (refine ⟨fun _ => ?_, fun _ => ?_⟩ <;> first | (exfalso; omega) | (conv => whnf)) | (refine ⟨by omega, ?_⟩; conv => whnf) | (intro _; conv => whnf))))
      exact ih _ (i + 1) (by omega) (by omega) (by omega) (by rwa [sumF, ← Int.add_assoc] at hq)
  (refine go (t := tb_X2_allMissing) (WPd_mono d) hP 60 [4] ?_; (conv => whnf); (repeat' (first | (refine ⟨fun _ => ?_, fun _ => ?_⟩ <;> first | (exfalso; omega) | (conv => whnf)) | (refine ⟨by omega, ?_⟩; conv => whnf) | (intro _; conv => whnf))))
  exact L (σ 16 0 7).toNat 0 0 (by omega) (by omega) (by omega) (by rwa [Int.zero_add])
theorem t_X2_allOffsets {d : Nat} (hd : 2 ≤ d) {σ : Sto} {Q : Post} (hn : 0 ≤ σ 16 0 8 ∧ σ 16 0 8 ≤ 6) (hof : ∀ i, 0 ≤ i → i < σ 16 0 8 → (0 ≤ σ 20 0 i ∧ σ 20 0 i < 51) ∧ (0 ≤ σ 15 0 (σ 20 0 i) ∧ σ 15 0 (σ 20 0 i) ≤ 600) ∧ (0 ≤ σ 21 0 i ∧ σ 21 0 i ≤ 500)) (h : Q (some (.inl (sumF (fun i => dif (σ 15 0 (σ 20 0 i)) (σ 21 0 i)) (σ 16 0 8).toNat 0))) σ) : WPd d m_X2_allOffsets [.inr (3, 0)] σ Q := by
  obtain ⟨d, rfl⟩ : ∃ k, d = k + 1 := ⟨d - 1, by omega⟩
  intro P hP
  have L : ∀ (n : Nat) (s i : Int), n = (σ 16 0 8 - i).toNat → 0 ≤ i → i ≤ σ 16 0 8 → Q (some (.inl (s + sumF (fun i => dif (σ 15 0 (σ 20 0 i)) (σ 21 0 i)) n i))) σ → P 4 [.inr (3, 0), .inl s, .inl i] [] σ := by
    intro n
    induction n with
    | zero =>
      intro s i hn0 h0 h1 hq
      (refine go (t := tb_X2_allOffsets) (WPd_mono d) hP 60 [4] ?_; (conv => whnf); (repeat' (first | (refine ⟨fun _ => ?_, fun _ => ?_⟩ <;> first | (exfalso; omega) | (conv => whnf)) | (refine ⟨by omega, ?_⟩; conv => whnf) | (intro _; conv => whnf))))
      rwa [sumF, Int.add_zero] at hq
    | succ n ih =>
      intro s i hn0 h0 h1 hq
      have hi := hof i h0 (by omega)
      (refine go (t := tb_X2_allOffsets) (WPd_mono d) hP 60 [4] ?_; (conv => whnf); (repeat' (first | (refine ⟨fun _ => ?_, fun _ => ?_⟩ <;> first | (exfalso; omega) | (conv => whnf)) | (refine ⟨by omega, ?_⟩; conv => whnf) | (intro _; conv => whnf))))
      refine t_X2_offsetOf (by omega) (by omega) (by omega) ?_
      ((conv => whnf); (repeat' (first | (refine ⟨fun _ => ?_, fun _ => ?_⟩ <;> first | (exfalso; omega) | (conv => whnf)) | (refine ⟨by omega, ?_⟩; conv => whnf) | (intro _; conv => whnf))))
      exact ih _ (i + 1) (by omega) (by omega) (by omega) (by rwa [sumF, ← Int.add_assoc] at hq)
  (refine go (t := tb_X2_allOffsets) (WPd_mono d) hP 60 [4] ?_; (conv => whnf); (repeat' (first | (refine ⟨fun _ => ?_, fun _ => ?_⟩ <;> first | (exfalso; omega) | (conv => whnf)) | (refine ⟨by omega, ?_⟩; conv => whnf) | (intro _; conv => whnf))))
  exact L (σ 16 0 8).toNat 0 0 (by omega) (by omega) (by omega) (by rwa [Int.zero_add])
/-- what total says of a best count -/
def totA (K : KV) (A O G : Int → Int) (w : Int) : Int := if w = 0 then cntF O 0 (K 7 0).toNat 0 else if w = 1 then cntF O 2 (K 7 0).toNat 0 else if w = 2 then sumF G (K 7 0).toNat 0 else if w = 3 then sumF (fun i => dif (A (K 3 i)) (K 4 i)) (K 7 1).toNat 0 else A (K 7 0)
theorem t_X4_total {d : Nat} (hd : 6 ≤ d) {σ : Sto} {Q : Post} {K : KV} {h : Int} {HK : Int → KV} {tl : Int} {tx : Int → Int} {w : Int} (hC : ClassR σ K h HK tl tx) (hw0 : inR w) (hbad : ¬ (0 ≤ w ∧ w ≤ 4) → Q (some (.inl (-1))) σ) (hno : (0 ≤ w ∧ w ≤ 4) → (∀ c, ¬ CS K c) → ∀ σ', ClassR σ' K h HK tl tx → frC σ σ' → Q (some (.inl (-4))) σ') (hyes : (0 ≤ w ∧ w ≤ 4) → (∃ c, CS K c) → ∀ A O G, Bst K (acK K) 600 A O G → ∀ σ', ClassR σ' K h HK tl tx → frC σ σ' → Q (some (.inl (totA K A O G w))) σ') : WPd d m_X4_total [.inr (0, 0), .inl w] σ Q := by
  obtain ⟨d, rfl⟩ : ∃ k, d = k + 1 := ⟨d - 1, by omega⟩
  intro P hP
  obtain ⟨rfl, hw, hh, htx, hr⟩ := hC
  have hn := hw.2.1
  have hn0 := hw.1
  rw [vw_a] at hn
  rw [vw_n] at hn0
  (refine go (t := tb_X4_total) (WPd_mono d) hP 60 [] ?_; (conv => whnf); (repeat' (first | (refine ⟨fun _ => ?_, fun _ => ?_⟩ <;> first | (exfalso; omega) | (conv => whnf)) | (refine ⟨by omega, ?_⟩; conv => whnf) | (intro _; conv => whnf))))
  refine t_X4_isWithin (by omega) hw0 (by omega) (by omega) (fun q2 => ?_) (fun q => ?_)
  · ((conv => whnf); (repeat' (first | (refine ⟨fun _ => ?_, fun _ => ?_⟩ <;> first | (exfalso; omega) | (conv => whnf)) | (refine ⟨by omega, ?_⟩; conv => whnf) | (intro _; conv => whnf))))
    refine t_X2_hasCount (by omega) rfl hw hr (fun ρ fo ro t12 lt b0 => ?_) (fun ρ fo ro no => ?_)
    · have cr := ClassR_R ⟨rfl, hw, hh, htx, hr⟩ fo ro
      have bs := Bst_o hw ((RecOk_B ro t12).2.2 lt)
      have Y := hyes q2 ⟨_, (Mn_L b0 lt).1⟩ _ _ _ bs ρ cr.1 cr.2
      unfold totA at Y
      rw [vw_n, vw_a] at Y
      have eo : ∀ k, 16 ≤ k → k ≤ 23 → ρ k 0 = σ k 0 := fun k k0 k1 => fo k 0 (by omega) (by omega) (by omega) (by omega)
      have e16 := eo 16 (by decide) (by decide)
      have fin : ∀ i, 0 ≤ i → i < σ 16 0 7 → (lo (σ 18 0 i) ≤ ρ 13 0 i ∧ ρ 13 0 i ≤ hi (σ 18 0 i)) ∧ (0 ≤ σ 18 0 i ∧ σ 18 0 i ≤ 2) := fun i i0 i1 => by
        obtain ⟨v0, v1, v2⟩ := (vw_in (σ := σ) (c := 0)).1 i0 i1
        have a := (Bst_b hw bs i0).2 (by rw [vw_n]; exact i1)
        have b := (hw.2.2.1 i i0 (by rw [vw_n]; exact i1)).2.1
        rw [v1] at a b
        exact ⟨a.1, b⟩
      ((conv => whnf); (repeat' (first | (refine ⟨fun _ => ?_, fun _ => ?_⟩ <;> first | (exfalso; omega) | (conv => whnf)) | (refine ⟨by omega, ?_⟩; conv => whnf) | (intro _; conv => whnf))))
      refine ⟨fun q => ?_, ?_⟩
      · have q : w < 0 ∨ 4 ≤ w := q
        have e : w = 4 := by omega
        subst e
        ((conv => whnf); (repeat' (first | (refine ⟨fun _ => ?_, fun _ => ?_⟩ <;> first | (exfalso; omega) | (conv => whnf)) | (refine ⟨by omega, ?_⟩; conv => whnf) | (intro _; conv => whnf))))
        rw [e16]
        ((conv => whnf); (repeat' (first | (refine ⟨fun _ => ?_, fun _ => ?_⟩ <;> first | (exfalso; omega) | (conv => whnf)) | (refine ⟨by omega, ?_⟩; conv => whnf) | (intro _; conv => whnf))))
        exact Y
      · (conv => whnf)
        refine ⟨fun q => ?_, ?_⟩
        · subst q
          ((conv => whnf); (repeat' (first | (refine ⟨fun _ => ?_, fun _ => ?_⟩ <;> first | (exfalso; omega) | (conv => whnf)) | (refine ⟨by omega, ?_⟩; conv => whnf) | (intro _; conv => whnf))))
          refine t_X2_layersWith (by omega) (by omega) (by omega) (by rw [e16]; omega) (fun i i0 i1 => ?_) ?_
          · rw [e16] at i1
            rw [eo 18 (by decide) (by decide)]
            have a := fin i i0 i1
            unfold lo hi at a
            revert a
            (repeat' split) <;> omega
          · rw [e16]
            ((conv => whnf); (repeat' (first | (refine ⟨fun _ => ?_, fun _ => ?_⟩ <;> first | (exfalso; omega) | (conv => whnf)) | (refine ⟨by omega, ?_⟩; conv => whnf) | (intro _; conv => whnf))))
            exact Y
        · (conv => whnf)
          refine ⟨fun q => ?_, ?_⟩
          · have q : w = 1 := q
            subst q
            ((conv => whnf); (repeat' (first | (refine ⟨fun _ => ?_, fun _ => ?_⟩ <;> first | (exfalso; omega) | (conv => whnf)) | (refine ⟨by omega, ?_⟩; conv => whnf) | (intro _; conv => whnf))))
            refine t_X2_layersWith (by omega) (by omega) (by omega) (by rw [e16]; omega) (fun i i0 i1 => ?_) ?_
            · rw [e16] at i1
              rw [eo 18 (by decide) (by decide)]
              have a := fin i i0 i1
              unfold lo hi at a
              revert a
              (repeat' split) <;> omega
            · rw [e16]
              ((conv => whnf); (repeat' (first | (refine ⟨fun _ => ?_, fun _ => ?_⟩ <;> first | (exfalso; omega) | (conv => whnf)) | (refine ⟨by omega, ?_⟩; conv => whnf) | (intro _; conv => whnf))))
              exact Y
          · (conv => whnf)
            refine ⟨fun q => ?_, ?_⟩
            · have q : w = 2 := q
              subst q
              ((conv => whnf); (repeat' (first | (refine ⟨fun _ => ?_, fun _ => ?_⟩ <;> first | (exfalso; omega) | (conv => whnf)) | (refine ⟨by omega, ?_⟩; conv => whnf) | (intro _; conv => whnf))))
              refine t_X2_allMissing (by omega) (by rw [e16]; omega) ?_
              rw [e16]
              ((conv => whnf); (repeat' (first | (refine ⟨fun _ => ?_, fun _ => ?_⟩ <;> first | (exfalso; omega) | (conv => whnf)) | (refine ⟨by omega, ?_⟩; conv => whnf) | (intro _; conv => whnf))))
              exact Y
            · (conv => whnf)
              refine ⟨fun q => ?_, trivial⟩
              have q : w = 3 := q
              subst q
              ((conv => whnf); (repeat' (first | (refine ⟨fun _ => ?_, fun _ => ?_⟩ <;> first | (exfalso; omega) | (conv => whnf)) | (refine ⟨by omega, ?_⟩; conv => whnf) | (intro _; conv => whnf))))
              have xin : ∀ i, 0 ≤ i → i < σ 16 0 8 → (vwC σ 0 3 i = σ 20 0 i ∧ vwC σ 0 4 i = σ 21 0 i) ∧ ((0 ≤ σ 20 0 i ∧ σ 20 0 i < 51) ∧ (0 ≤ ρ 15 0 (σ 20 0 i) ∧ ρ 15 0 (σ 20 0 i) ≤ 600) ∧ (0 ≤ σ 21 0 i ∧ σ 21 0 i ≤ 500)) := fun i i0 i1 => by
                obtain ⟨v0, v1, v2⟩ := (vw_in (σ := σ) (c := 0)).2.1 i0 i1
                have a := hw.2.2.2.1 i i0 (by rw [vw_a]; exact i1)
                rw [v0, v1, vw_n] at a
                have b := (Bst_b hw bs (p := σ 20 0 i) (by omega)).1 (by rw [vw_n]; omega)
                exact ⟨⟨v0, v1⟩, by omega, b, by omega⟩
              refine t_X2_allOffsets (by omega) (by rw [e16]; omega) (fun i i0 i1 => ?_) ?_
              · rw [e16] at i1
                rw [eo 20 (by decide) (by decide), eo 21 (by decide) (by decide)]
                exact (xin i i0 i1).2
              · rw [e16, eo 20 (by decide) (by decide), eo 21 (by decide) (by decide)]
                ((conv => whnf); (repeat' (first | (refine ⟨fun _ => ?_, fun _ => ?_⟩ <;> first | (exfalso; omega) | (conv => whnf)) | (refine ⟨by omega, ?_⟩; conv => whnf) | (intro _; conv => whnf))))
                have sm : sumF (fun i => dif (ρ 15 0 (vwC σ 0 3 i)) (vwC σ 0 4 i)) (σ 16 0 8).toNat 0 = sumF (fun i => dif (ρ 15 0 (σ 20 0 i)) (σ 21 0 i)) (σ 16 0 8).toNat 0 := sumF_cg _ _ fun j j0 j1 => by
                  have a := (xin j j0 (by omega)).1
                  rw [a.1, a.2]
                rw [← sm]
                exact Y
    · have cr := ClassR_R ⟨rfl, hw, hh, htx, hr⟩ fo ro
      ((conv => whnf); (repeat' (first | (refine ⟨fun _ => ?_, fun _ => ?_⟩ <;> first | (exfalso; omega) | (conv => whnf)) | (refine ⟨by omega, ?_⟩; conv => whnf) | (intro _; conv => whnf))))
      exact hno q2 no ρ cr.1 cr.2
  · ((conv => whnf); (repeat' (first | (refine ⟨fun _ => ?_, fun _ => ?_⟩ <;> first | (exfalso; omega) | (conv => whnf)) | (refine ⟨by omega, ?_⟩; conv => whnf) | (intro _; conv => whnf))))
    exact hbad q
end
section
/-! WHAT IS ASKED of other cores; THE CLASS: widen -/
def acB0 (K : KV) (l wi p a : Int) : Option Int := if axK K p = -1 ∨ axK K p = l then some 0 else if K 5 (axK K p) + wi < dif a (K 4 (axK K p)) then none else some (dif a (K 4 (axK K p)) * K 6 3)
def acP1 (K : KV) (ma mu wi a : Int) (x : Option Int) : Option Int := match x with
  | none => none
  | some w => if mu + wi < dif a ma then none else some (w + dif a ma * K 6 3)
def acG (K : KV) (l mp ma mu wi p a : Int) : Option Int := if p = mp then acP1 K ma mu wi a (acB0 K l wi p a) else acB0 K l wi p a
theorem acK_0 (K : KV) : acK K = acB0 K (-1) 0 := by
  funext p a
  unfold acK acB0
  by_cases c : axK K p = -1
  · rw [if_pos c, if_pos (Or.inl c)]
  · rw [if_neg c, if_neg (show ¬ (axK K p = -1 ∨ axK K p = -1) by omega), Int.add_zero]
theorem acB0_g {K : KV} (hK : WFK K) {l wi : Int} (hwi : 0 ≤ wi ∧ wi ≤ 511) : acB (acB0 K l wi) 30000 := by
  intro p a w e
  unfold acB0 at e
  have s := hK.2.2.2.2.2 3 (by omega) (by omega)
  have bx := axK_of K p hK.2.1.1
  split at e
  · cases e
    omega
  · rename_i q
    split at e
    · cases e
    · rename_i q2
      cases e
      have u := (hK.2.2.2.1 (axK K p) (by omega) (by omega)).2.2
      have d0 : 0 ≤ dif a (K 4 (axK K p)) := by
        unfold dif
        omega
      have := mul_b (G := 520) (X := 50) d0 (by omega) s.1 s.2
      omega
theorem acG_g {K : KV} (hK : WFK K) {l mp ma mu wi : Int} (hwi : 0 ≤ wi ∧ wi ≤ 511) (hmu : mu ≤ 9) : acB (acG K l mp ma mu wi) 60000 := by
  intro p a w e
  have b := acB0_g hK (l := l) hwi p a
  unfold acG acP1 at e
  split at e
  · split at e
    · cases e
    · rename_i w1 e1
      have b := b w1 e1
      split at e
      · cases e
      · rename_i q2
        cases e
        have s := hK.2.2.2.2.2 3 (by omega) (by omega)
        have d0 : 0 ≤ dif a ma := by
          unfold dif
          omega
        have := mul_b (G := 520) (X := 50) d0 (by omega) s.1 s.2
        omega
  · have := b w e
    omega
theorem cont_cg {K : KV} {ac ac' : acT} {B : Int} : ∀ (m : Nat) (p a c : Int), (∀ q x w, p < q → q ≤ p + m → ac q x = some w → ac' q x = some w) → cont K ac B m p a c → cont K ac' B m p a c
  | 0, _, _, _, _, h => h
  | m + 1, p, a, c, hc, h => by
    obtain ⟨o, g, w, c', ho, hg, hb, hw, hc', e⟩ := h
    exact ⟨o, g, w, c', ho, hg, hb, hc _ _ _ (by omega) (by omega) hw, cont_cg m (p + 1) _ c' (fun q x w q0 q1 => hc q x w (by omega) (by omega)) hc', e⟩
theorem pre_cg {K : KV} {ac ac' : acT} {B : Int} : ∀ (p : Nat) (a c : Int), (∀ (q : Int) x w, 0 ≤ q → q < p → ac q x = some w → ac' q x = some w) → pre K ac B p a c → pre K ac' B p a c
  | 0, _, _, _, h => h
  | p + 1, a, c, hc, h => by
    obtain ⟨o, g, w, c', a', ho, hg, ea, hb, hw, hc', e⟩ := h
    exact ⟨o, g, w, c', a', ho, hg, ea, hb, hc _ _ _ (by omega) (by omega) hw, pre_cg p a' c' (fun q x w q0 q1 => hc q x w q0 (by omega)) hc', e⟩
def WS (K : KV) (e c : Int) : Prop := cont K (acB0 K (-1) e) 600 (K 7 0).toNat 0 0 c
def isW (K : KV) (v : Int) : Prop := 0 ≤ v ∧ (∃ c, WS K v c) ∧ ∀ e, 0 ≤ e → e < v → ∀ c, ¬ WS K e c
theorem isW_u {K : KV} {v w : Int} (h : isW K v) (h' : isW K w) : v = w := by
  obtain ⟨a0, ⟨c, a1⟩, a2⟩ := h
  obtain ⟨b0, ⟨c', b1⟩, b2⟩ := h'
  by_cases q : v < w
  · exact absurd a1 (b2 v a0 q c)
  · by_cases q2 : w < v
    · exact absurd b1 (a2 w b0 q2 c')
    · omega
theorem WS_m {K : KV} {e e' c : Int} (h : e ≤ e') (hc : WS K e c) : WS K e' c := by
  refine cont_cg _ _ _ _ (fun q x w q0 q1 hw => ?_) hc
  unfold acB0 at hw ⊢
  split at hw
  · rename_i z
    rw [if_pos z]
    exact hw
  · rename_i z
    rw [if_neg z]
    split at hw
    · cases hw
    · rename_i z2
      rw [if_neg (by omega)]
      exact hw
theorem WS_top {K : KV} (hK : WFK K) {e : Int} (he : 500 ≤ e) : ∀ (m : Nat) (p a : Int), 0 ≤ p → p + m = K 7 0 → 0 ≤ a → a ≤ p → ∃ c, cont K (acB0 K (-1) e) 600 m p a c
  | 0, _, _, _, _, _, _ => ⟨0, rfl⟩
  | m + 1, p, a, h0, h1, a0, a1 => by
    have hn := hK.1
    have bl := lo_b (K 1 p)
    have bh := hi_b (K 1 p)
    have mb := (hK.2.2.1 p h0 (by omega)).2.2
    obtain ⟨c', hc⟩ := WS_top hK he m (p + 1) (a + lo (K 1 p) + 0) (by omega) (by omega) (by omega) (by omega)
    have some1 : ∃ w, acB0 K (-1) e (p + 1) (a + lo (K 1 p) + 0) = some w := by
      unfold acB0
      split
      · exact ⟨_, rfl⟩
      · rename_i z
        have bx := axK_of K (p + 1) hK.2.1.1
        have u := hK.2.2.2.1 (axK K (p + 1)) (by omega) (by omega)
        rw [if_neg (by unfold dif; omega)]
        exact ⟨_, rfl⟩
    obtain ⟨w, hw⟩ := some1
    exact ⟨_, lo (K 1 p), 0, w, c', by omega, by omega, by omega, hw, hc, rfl⟩
theorem fit_s {K : KV} {ac : acT} {m : Nat} {i l g l' g' : Int} (hlg : 0 ≤ l ∧ l ≤ g) (hm : 0 ≤ K 2 i) (h1 : l + lo (K 1 i) ≤ l') (h2 : g' ≤ min 600 (g + (hi (K 1 i) + K 2 i))) (hac : ∀ a, l + lo (K 1 i) ≤ a → a ≤ min 600 (g + (hi (K 1 i) + K 2 i)) → ((∃ w, ac (i + 1) a = some w) ↔ l' ≤ a ∧ a ≤ g')) : (∃ a c, (l ≤ a ∧ a ≤ g) ∧ cont K ac 600 (m + 1) i a c) ↔ ∃ a c, (l' ≤ a ∧ a ≤ g') ∧ cont K ac 600 m (i + 1) a c := by
  have bl := lo_b (K 1 i)
  have bh := hi_b (K 1 i)
  constructor
  · rintro ⟨a, c, hb, o, gg, w, c', ho, hg, hB, hw, hc, e⟩
    exact ⟨a + o + gg, c', (hac _ (by omega) (by omega)).1 ⟨w, hw⟩, hc⟩
  · rintro ⟨a, c, hb, hc⟩
    obtain ⟨w, hw⟩ := (hac a (by omega) (by omega)).2 hb
    obtain ⟨x, hx⟩ : ∃ x, x = max l (a - (hi (K 1 i) + K 2 i)) := ⟨_, rfl⟩
    obtain ⟨o, ho⟩ : ∃ o, o = min (hi (K 1 i)) (a - x) := ⟨_, rfl⟩
    refine ⟨x, _, by omega, o, a - x - o, w, c, by omega, by omega, by omega, ?_, ?_, rfl⟩
    · rw [show x + o + (a - x - o) = a by omega]
      exact hw
    · rw [show x + o + (a - x - o) = a by omega]
      exact hc
theorem t_X0_fitsWith {d : Nat} (hd : 2 ≤ d) {σ : Sto} {Q : Post} {K : KV} {e : Int} (hK : vwC σ 0 = K) (hw : WFK K) (he : 0 ≤ e ∧ e ≤ 600) (h1 : (∃ c, WS K e c) → Q (some (.inl 1)) σ) (h0 : (∀ c, ¬ WS K e c) → Q (some (.inl 0)) σ) : WPd d m_X0_fitsWith [.inr (16, 0), .inl e] σ Q := by
  obtain ⟨d, rfl⟩ : ∃ k, d = k + 1 := ⟨d - 1, by omega⟩
  refine wpd_of fun P hT hP => ?_
  have hn := hw.1
  have n2 : σ 16 0 7 = K 7 0 := by rw [← hK, vw_n]
  have ha := hw.2.1
  have a2 : σ 16 0 8 = K 7 1 := by rw [← hK, vw_a]
  have L : ∀ (n : Nat) (i l g : Int), n = (K 7 0 - i).toNat → 0 ≤ i → i ≤ K 7 0 → (0 ≤ l ∧ l ≤ g) → g ≤ 600 → ((∃ c, WS K e c) ↔ ∃ a c, (l ≤ a ∧ a ≤ g) ∧ cont K (acB0 K (-1) e) 600 n i a c) → P 7 [.inr (16, 0), .inl e, .inl l, .inl g, .inl i] [] σ := by
    intro n
    induction n with
    | zero =>
      intro i l g hn0 i0 i1 hlg hg iv
      (refine go (t := tb_X0_fitsWith) (WPd_mono d) hP 60 [7] ?_; (conv => whnf); (repeat' (first | (refine ⟨fun _ => ?_, fun _ => ?_⟩ <;> first | (exfalso; omega) | (conv => whnf)) | (refine ⟨by omega, ?_⟩; conv => whnf) | (intro _; conv => whnf))))
      exact h1 (iv.2 ⟨l, 0, by omega, rfl⟩)
    | succ n ih =>
      intro i l g hn0 i0 i1 hlg hg iv
      obtain ⟨-, v1, v2⟩ := (vw_in (σ := σ) (c := 0)).1 i0 (by omega)
      rw [hK] at v1 v2
      have bl := lo_b (K 1 i)
      have bh := hi_b (K 1 i)
      have mb := (hw.2.2.1 i i0 (by omega)).2.2
      (refine go (t := tb_X0_fitsWith) (WPd_mono d) hP 60 [7] ?_; (conv => whnf); (repeat' (first | (refine ⟨fun _ => ?_, fun _ => ?_⟩ <;> first | (exfalso; omega) | (conv => whnf)) | (refine ⟨by omega, ?_⟩; conv => whnf) | (intro _; conv => whnf))))
      refine t_X0_leastOwn (by omega) (by omega) ?_
      rw [← v1]
      ((conv => whnf); (repeat' (first | (refine ⟨fun _ => ?_, fun _ => ?_⟩ <;> first | (exfalso; omega) | (conv => whnf)) | (refine ⟨by omega, ?_⟩; conv => whnf) | (intro _; conv => whnf))))
      refine t_X0_mostYears (by omega) (by omega) ?_
      rw [← v1, ← v2]
      ((conv => whnf); (repeat' (first | (refine ⟨fun _ => ?_, fun _ => ?_⟩ <;> first | (exfalso; omega) | (conv => whnf)) | (refine ⟨by omega, ?_⟩; conv => whnf) | (intro _; conv => whnf))))
      refine t_X0_ashAt (by omega) (by omega) (by omega) ?_
      rw [ax_vw, hK]
      have bx := axK_of K (i + 1) hw.2.1.1
      have o1 : n = (K 7 0 - (i + 1)).toNat := by clear iv; omega
      have o2 : 0 ≤ i + 1 := by clear iv; omega
      have o3 : i + 1 ≤ K 7 0 := by clear iv; omega
      by_cases c : axK K (i + 1) = -1
      · rw [c]
        have st := fit_s (K := K) (ac := acB0 K (-1) e) (m := n) (i := i) (l' := l + lo (K 1 i)) (g' := min 600 (g + (hi (K 1 i) + K 2 i))) hlg (by omega) (by omega) (by omega) (fun a a0 a1 => by
          unfold acB0
          rw [if_pos (Or.inl c)]
          exact ⟨fun _ => by omega, fun _ => ⟨_, rfl⟩⟩)
        have X := fun z1 z2 => ih (i + 1) (l + lo (K 1 i)) (min 600 (g + (hi (K 1 i) + K 2 i))) o1 o2 o3 z1 z2 (iv.trans st)
        have Y := fun (z : ¬ l + lo (K 1 i) ≤ min 600 (g + (hi (K 1 i) + K 2 i))) => h0 (fun c hc => by
          obtain ⟨a, c', hb, _⟩ := (iv.trans st).1 ⟨c, hc⟩
          clear iv st
          omega)
        clear iv st
        ((conv => whnf); (repeat' (first | (refine ⟨fun _ => ?_, fun _ => ?_⟩ <;> first | (exfalso; omega) | (conv => whnf)) | (refine ⟨by omega, ?_⟩; conv => whnf) | (intro _; conv => whnf))))
        · (refine hT 5 ?_; exact (X (by omega) (by omega)))
        · exact Y (by omega)
      · obtain ⟨w0, w1, w2⟩ := (vw_in (σ := σ) (c := 0)).2.1 (show 0 ≤ axK K (i + 1) by omega) (by omega)
        rw [hK] at w1 w2
        have u := hw.2.2.2.1 (axK K (i + 1)) (by omega) (by omega)
        have st := fit_s (K := K) (ac := acB0 K (-1) e) (m := n) (i := i) (l' := max (l + lo (K 1 i)) (K 4 (axK K (i + 1)) - K 5 (axK K (i + 1)) - e)) (g' := min (min 600 (g + (hi (K 1 i) + K 2 i))) (K 4 (axK K (i + 1)) + K 5 (axK K (i + 1)) + e)) hlg (by omega) (by omega) (by omega) (fun a a0 a1 => by
          unfold acB0
          rw [if_neg (by omega)]
          by_cases z : K 5 (axK K (i + 1)) + e < dif a (K 4 (axK K (i + 1)))
          · rw [if_pos z]
            unfold dif at z
            exact ⟨fun ⟨_, q⟩ => (by cases q), fun q => (by omega)⟩
          · rw [if_neg z]
            unfold dif at z
            exact ⟨fun _ => by omega, fun _ => ⟨_, rfl⟩⟩)
        have X := fun z1 z2 => ih (i + 1) (max (l + lo (K 1 i)) (K 4 (axK K (i + 1)) - K 5 (axK K (i + 1)) - e)) (min (min 600 (g + (hi (K 1 i) + K 2 i))) (K 4 (axK K (i + 1)) + K 5 (axK K (i + 1)) + e)) o1 o2 o3 z1 z2 (iv.trans st)
        have Y := fun (z : ¬ max (l + lo (K 1 i)) (K 4 (axK K (i + 1)) - K 5 (axK K (i + 1)) - e) ≤ min (min 600 (g + (hi (K 1 i) + K 2 i))) (K 4 (axK K (i + 1)) + K 5 (axK K (i + 1)) + e)) => h0 (fun c hc => by
          obtain ⟨a, c', hb, _⟩ := (iv.trans st).1 ⟨c, hc⟩
          clear iv st
          omega)
        clear iv st
        ((conv => whnf); (repeat' (first | (refine ⟨fun _ => ?_, fun _ => ?_⟩ <;> first | (exfalso; omega) | (conv => whnf)) | (refine ⟨by omega, ?_⟩; conv => whnf) | (intro _; conv => whnf))))
        rw [← w1, ← w2]
        ((conv => whnf); (repeat' (first | (refine ⟨fun _ => ?_, fun _ => ?_⟩ <;> first | (exfalso; omega) | (conv => whnf)) | (refine ⟨by omega, ?_⟩; conv => whnf) | (intro _; conv => whnf))))
        · (refine hT 5 ?_; exact (X (by omega) (by omega)))
        · exact Y (by omega)
  (refine go (t := tb_X0_fitsWith) (WPd_mono d) hP 60 [7] ?_; (conv => whnf); (repeat' (first | (refine ⟨fun _ => ?_, fun _ => ?_⟩ <;> first | (exfalso; omega) | (conv => whnf)) | (refine ⟨by omega, ?_⟩; conv => whnf) | (intro _; conv => whnf))))
  exact L _ 0 0 0 rfl (by omega) (by omega) (by omega) (by omega) (by
    rw [Int.sub_zero]
    constructor
    · rintro ⟨c, hc⟩
      exact ⟨0, c, by omega, hc⟩
    · rintro ⟨a, c, hb, hc⟩
      rw [show a = 0 by omega] at hc
      exact ⟨c, hc⟩)
def p2 : Nat → Int
  | 0 => 0
  | 1 => 1
  | n + 2 => 2 * p2 (n + 1)
theorem t_X4_widen {d : Nat} (hd : 3 ≤ d) {σ : Sto} {Q : Post} {K : KV} {h : Int} {HK : Int → KV} {tl : Int} {tx : Int → Int} (hC : ClassR σ K h HK tl tx) (hyes : ∀ v, isW K v → Q (some (.inl v)) σ) : WPd d m_X4_widen [.inr (0, 0)] σ Q := by
  obtain ⟨d, rfl⟩ : ∃ k, d = k + 1 := ⟨d - 1, by omega⟩
  intro P hP
  obtain ⟨hK, hw, hh, htx, hr⟩ := hC
  have L : ∀ (n : Nat) (t : Int), 0 ≤ t → 0 ≤ p2 n → t + 2 * p2 n ≤ 512 → (∀ e, 0 ≤ e → e < t → ∀ c, ¬ WS K e c) → (0 < p2 n → ∃ c, WS K (t + 2 * p2 n - 1) c) → (p2 n = 0 → ∃ c, WS K t c) → P 6 [.inr (0, 0), .inl t, .inl (p2 n)] [] σ := by
    intro n
    induction n with
    | zero =>
      intro t t0 d0 tb no f1 f2
      have e : p2 0 = 0 := rfl
      rw [e]
      (refine go (t := tb_X4_widen) (WPd_mono d) hP 60 [6] ?_; (conv => whnf); (repeat' (first | (refine ⟨fun _ => ?_, fun _ => ?_⟩ <;> first | (exfalso; omega) | (conv => whnf)) | (refine ⟨by omega, ?_⟩; conv => whnf) | (intro _; conv => whnf))))
      exact hyes t ⟨t0, f2 e, no⟩
    | succ n ih =>
      intro t t0 d0 tb no f1 f2
      have hp : 0 < p2 (n + 1) ∧ p2 (n + 1) / 2 = p2 n ∧ (p2 n = 0 ∨ p2 (n + 1) = 2 * p2 n) := by
        cases n with
        | zero => exact ⟨by decide, by decide, Or.inl rfl⟩
        | succ n =>
          have e : p2 (n + 1 + 1) = 2 * p2 (n + 1) := rfl
          have pos : ∀ k, 0 < p2 (k + 1) := fun k => by
            induction k with
            | zero => decide
            | succ k ik =>
              have e : p2 (k + 1 + 1) = 2 * p2 (k + 1) := rfl
              omega
          have := pos n
          exact ⟨by omega, by omega, Or.inr e⟩
      have p1 : p2 n = 0 → p2 (n + 1) = 1 := fun z => by
        cases n with
        | zero => rfl
        | succ n =>
          have e : p2 (n + 1 + 1) = 2 * p2 (n + 1) := rfl
          omega
      (refine go (t := tb_X4_widen) (WPd_mono d) hP 60 [6] ?_; (conv => whnf); (repeat' (first | (refine ⟨fun _ => ?_, fun _ => ?_⟩ <;> first | (exfalso; omega) | (conv => whnf)) | (refine ⟨by omega, ?_⟩; conv => whnf) | (intro _; conv => whnf))))
      refine t_X0_fitsWith (by omega) hK hw (by omega) (fun ex => ?_) (fun ne => ?_)
      · ((conv => whnf); (repeat' (first | (refine ⟨fun _ => ?_, fun _ => ?_⟩ <;> first | (exfalso; omega) | (conv => whnf)) | (refine ⟨by omega, ?_⟩; conv => whnf) | (intro _; conv => whnf))))
        rw [hp.2.1]
        refine ih t t0 (by omega) (by omega) no (fun z => ?_) (fun z => ?_)
        · rw [show t + 2 * p2 n - 1 = t + p2 (n + 1) - 1 by omega]
          exact ex
        · have := p1 z
          rw [show t + p2 (n + 1) - 1 = t by omega] at ex
          exact ex
      · ((conv => whnf); (repeat' (first | (refine ⟨fun _ => ?_, fun _ => ?_⟩ <;> first | (exfalso; omega) | (conv => whnf)) | (refine ⟨by omega, ?_⟩; conv => whnf) | (intro _; conv => whnf))))
        rw [hp.2.1]
        refine ih (t + p2 (n + 1)) (by omega) (by omega) (by omega) (fun e e0 e1 c hc => ne c (WS_m (by omega) hc)) (fun z => ?_) (fun z => ?_)
        · rw [show t + p2 (n + 1) + 2 * p2 n - 1 = t + 2 * p2 (n + 1) - 1 by omega]
          exact f1 hp.1
        · have := p1 z
          rw [show t + p2 (n + 1) = t + 2 * p2 (n + 1) - 1 by omega]
          exact f1 hp.1
  (refine go (t := tb_X4_widen) (WPd_mono d) hP 60 [6] ?_; (conv => whnf); (repeat' (first | (refine ⟨fun _ => ?_, fun _ => ?_⟩ <;> first | (exfalso; omega) | (conv => whnf)) | (refine ⟨by omega, ?_⟩; conv => whnf) | (intro _; conv => whnf))))
  have top : ∃ c, WS K (0 + 2 * p2 9 - 1) c := by
    have hn := hw.1
    exact WS_top hw (by decide) _ 0 0 (by omega) (by omega) (by omega) (by omega)
  exact L 9 0 (by decide) (by decide) (by decide) (fun e e0 e1 => by omega) (fun _ => top) (fun z => by cases z)
end
section
/-! COSTS THROUGH A PLACE -/
theorem axK_z {K : KV} (hK : WFK K) : axK K 0 = -1 := by
  rcases axK_of K 0 hK.2.1.1 with a | a
  · exact a.1
  · have := (hK.2.2.2.1 (axK K 0) a.1 a.2.1).1
    omega
theorem axK_at {K : KV} (hK : WFK K) {x : Int} (h0 : 0 ≤ x) (h1 : x < K 7 1) : axK K (K 3 x) = x := by
  rcases axK_of K (K 3 x) hK.2.1.1 with a | a
  · exact absurd rfl (a.2 x h0 h1)
  · have m := hK.2.2.2.2.1
    by_cases c : axK K (K 3 x) < x
    · have := m _ _ a.1 c h1
      omega
    · by_cases c2 : x < axK K (K 3 x)
      · have := m _ _ h0 c2 a.2.1
        omega
      · omega
theorem pre_r {K : KV} (hK : WFK K) {ac : acT} {B : Int} : ∀ (p : Nat) (a c : Int), p ≤ K 7 0 → pre K ac B p a c → rch K p a ∧ 0 ≤ a
  | 0, a, c, _, h => by
    rw [(show a = 0 ∧ c = 0 from h).1]
    exact ⟨rch_0 K, by decide⟩
  | p + 1, a, c, hp, h => by
    obtain ⟨o, g, w, c', a', ho, hg, ea, hb, hw, hc, e⟩ := h
    have ih := pre_r hK p a' c' (by omega) hc
    have bl := lo_b (K 1 p)
    rw [ea]
    exact ⟨rch_s hK (by omega) (by omega) ih.1 (show rngK K p (o, g) from ⟨ho, hg⟩), by omega⟩
theorem rch_le {K : KV} (hK : WFK K) {p a : Int} (h0 : 0 ≤ p) (h1 : p ≤ K 7 0) (hr : rch K p a) : a ≤ mxK K (K 7 0).toNat 0 := by
  have b := mxK_b hK (K 7 0 - p).toNat p h0 (by omega)
  unfold rch at hr
  omega
theorem pre_o {K : KV} (hK : WFK K) {ac : acT} : ∀ (p : Nat) (a c : Int), p ≤ K 7 0 → (pre K ac (old K) p a c ↔ pre K ac 600 p a c)
  | 0, _, _, _ => Iff.rfl
  | p + 1, a, c, hp => by
    have ob := old_b hK
    constructor
    · rintro ⟨o, g, w, c', a', ho, hg, ea, hb, hw, hc, e⟩
      exact ⟨o, g, w, c', a', ho, hg, ea, by omega, hw, (pre_o hK p a' c' (by omega)).1 hc, e⟩
    · rintro ⟨o, g, w, c', a', ho, hg, ea, hb, hw, hc, e⟩
      have r := rch_s hK (by omega) (by omega) (pre_r hK p a' c' (by omega) hc).1 (show rngK K p (o, g) from ⟨ho, hg⟩)
      have l := rch_le hK (by omega) (by omega) r
      exact ⟨o, g, w, c', a', ho, hg, ea, by rw [old_e]; omega, hw, (pre_o hK p a' c' (by omega)).2 hc, e⟩
theorem pre_old {K : KV} (hK : WFK K) {ac : acT} {p : Nat} {a c : Int} (hp : p ≤ K 7 0) (h : pre K ac 600 p a c) : (0 ≤ a ∧ a ≤ old K) ∧ rch K p a := by
  obtain ⟨r, a0⟩ := pre_r hK p a c hp h
  have l := rch_le hK (by omega) hp r
  refine ⟨⟨a0, ?_⟩, r⟩
  rw [old_e]
  have : a ≤ 600 := by
    cases p with
    | zero =>
      have := (show a = 0 ∧ c = 0 from h).1
      omega
    | succ p =>
      obtain ⟨o, g, w, c', a', ho, hg, ea, hb, hw, hc, e⟩ := h
      exact hb
  omega
theorem dec_s {K : KV} {ac : acT} {B : Int} {p m : Nat} {c : Int} : (∃ a c1 w c2, pre K ac B p a c1 ∧ ac (p : Int) a = some w ∧ cont K ac B (m + 1) (p : Int) a c2 ∧ c = c1 + w + c2) ↔ (∃ a c1 w c2, pre K ac B (p + 1) a c1 ∧ ac ((p + 1 : Nat) : Int) a = some w ∧ cont K ac B m ((p + 1 : Nat) : Int) a c2 ∧ c = c1 + w + c2) := by
  have ep : ((p + 1 : Nat) : Int) = (p : Int) + 1 := rfl
  rw [ep]
  constructor
  · rintro ⟨a, c1, w, c2, h1, h2, ⟨o, g, w', c', ho, hg, hb, hw, hc, e⟩, e2⟩
    exact ⟨a + o + g, c1 + w + oK K p o + g * K 6 2, w', c', ⟨o, g, w, c1, a, ho, hg, rfl, hb, h2, h1, rfl⟩, hw, hc, by omega⟩
  · rintro ⟨a, c1, w, c2, ⟨o, g, w', c', a', ho, hg, ea, hb, hw, hc, e⟩, h2, h3, e2⟩
    subst ea
    exact ⟨a', c', w', oK K p o + g * K 6 2 + w + c2, hc, hw, ⟨o, g, w, c2, ho, hg, hb, h2, h3, rfl⟩, by omega⟩
theorem dec_a {K : KV} {ac : acT} {B : Int} (h0 : ac 0 0 = some 0) {c : Int} : ∀ (p m : Nat), (cont K ac B (p + m) 0 0 c ↔ ∃ a c1 w c2, pre K ac B p a c1 ∧ ac (p : Int) a = some w ∧ cont K ac B m (p : Int) a c2 ∧ c = c1 + w + c2)
  | 0, m => by
    rw [Nat.zero_add]
    constructor
    · intro h
      exact ⟨0, 0, 0, c, ⟨rfl, rfl⟩, h0, h, by omega⟩
    · rintro ⟨a, c1, w, c2, h1, h2, h3, e⟩
      obtain ⟨e1, e3⟩ : a = 0 ∧ c1 = 0 := h1
      subst e1
      have e4 : ((0 : Nat) : Int) = 0 := rfl
      rw [e4, h0] at h2
      cases h2
      rw [e, e3, Int.zero_add, Int.zero_add]
      exact h3
  | p + 1, m => by
    rw [show p + 1 + m = p + (m + 1) by omega]
    exact (dec_a h0 p (m + 1)).trans dec_s
theorem Mn_thru {K : KV} (hK : WFK K) {ac : acT} (hac : acB ac 60000) {p m : Nat} (hp : (p : Int) + m = K 7 0) (h0 : ac 0 0 = some 0) (hs : ∀ (q : Int) x, 0 ≤ q → q ≠ p → ac q x = acK K q x) {Ab Be : Int → Int} (hA : ∀ a, 0 ≤ a → a ≤ old K → Mn (pre K (acK K) (old K) p a) 268435456 (Ab a)) (hB : ∀ a, 0 ≤ a → a ≤ old K → Mn (cont K (acK K) (old K) m p a) 268435456 (Be a)) {v : Int} (v1 : v ≤ 268435456) (v2 : ∀ a w, 0 ≤ a → a ≤ old K → ac p a = some w → v ≤ Ab a + Be a + w) (v3 : v = 268435456 ∨ ∃ a w, (0 ≤ a ∧ a ≤ old K) ∧ ac p a = some w ∧ v = Ab a + Be a + w) : Mn (cont K ac 600 (p + m) 0 0) 268435456 v := by
  have low : ∀ c, cont K ac 600 (p + m) 0 0 c → v ≤ c := fun c hc => by
    obtain ⟨a, c1, w, c2, g1, g2, g3, e⟩ := (dec_a h0 p m).1 hc
    have k1 := pre_cg (ac' := acK K) p a c1 (fun q x w q0 q1 hw => by rw [← hs q x q0 (by omega)]; exact hw) g1
    have k3 := cont_cg (ac' := acK K) m p a c2 (fun q x w q0 q1 hw => by rw [← hs q x (by omega) (by omega)]; exact hw) g3
    obtain ⟨⟨a0, a1⟩, r⟩ := pre_old hK (by omega) k1
    have x1 := (hA a a0 a1).1 c1 ((pre_o hK p a c1 (by omega)).2 k1)
    have x2 := (hB a a0 a1).1 c2 ((cont_o hK (by omega) (by omega) r).2 k3)
    have x3 := v2 a w a0 a1 g2
    omega
  refine ⟨low, ?_⟩
  by_cases q : v = 268435456
  · refine Or.inl ⟨q, fun c hc => ?_⟩
    have a := low c hc
    have b := cont_lt hK hac (by omega) hc
    omega
  · rcases v3 with z | ⟨a, w, ⟨a0, a1⟩, hw, e⟩
    · exact absurd z q
    · have b1 := pre_v hK (by omega) (hA a a0 a1)
      have b2 := cont_v hK (by omega) (hB a a0 a1)
      have b3 := hac _ _ _ hw
      have m1 : pre K (acK K) (old K) p a (Ab a) := (Mn_L (hA a a0 a1) (by omega)).1
      have m2 : cont K (acK K) (old K) m p a (Be a) := (Mn_L (hB a a0 a1) (by omega)).1
      have m1 := (pre_o hK p a _ (by omega)).1 m1
      have r := (pre_old hK (by omega) m1).2
      have m2 := (cont_o hK (by omega) (by omega) r).1 m2
      refine Or.inr ⟨by omega, (dec_a h0 p m).2 ⟨a, Ab a, w, Be a, ?_, hw, ?_, by omega⟩⟩
      · exact pre_cg p a _ (fun q x w q0 q1 hw => by rw [hs q x q0 (by omega)]; exact hw) m1
      · exact cont_cg m p a _ (fun q x w q0 q1 hw => by rw [hs q x (by omega) (by omega)]; exact hw) m2
/-- ages of a place in counts of at most a cost -/
def BS (K : KV) (p m : Nat) (lim a : Int) : Prop := ∃ c1 w c2, pre K (acK K) 600 p a c1 ∧ acK K p a = some w ∧ cont K (acK K) 600 m p a c2 ∧ c1 + w + c2 ≤ lim
theorem acK_z {K : KV} (hK : WFK K) : acK K 0 0 = some 0 := by
  unfold acK
  rw [if_pos (axK_z hK)]
theorem BS_ex {K : KV} (hK : WFK K) {p m : Nat} (hp : (p : Int) + m = K 7 0) {c0 lim : Int} (hc : CS K c0) (hl : c0 ≤ lim) : ∃ a, BS K p m lim a := by
  unfold CS at hc
  rw [show (K 7 0).toNat = p + m by omega] at hc
  obtain ⟨a, c1, w, c2, g1, g2, g3, e⟩ := (dec_a (acK_z hK) p m).1 hc
  exact ⟨a, c1, w, c2, g1, g2, g3, by omega⟩
theorem BS_v {K : KV} (hK : WFK K) {p m : Nat} (hp : (p : Int) + m = K 7 0) {lim a Ab Be : Int} (hl : lim < 268435456) (a0 : 0 ≤ a) (a1 : a ≤ old K) (hA : Mn (pre K (acK K) (old K) p a) 268435456 Ab) (hB : Mn (cont K (acK K) (old K) m p a) 268435456 Be) : (Ab + Be + acV K p a ≤ lim ↔ BS K p m lim a) := by
  have b1 := pre_v hK (by omega) hA
  have b2 := cont_v hK (by omega) hB
  have b3 := acV_av hK p a
  constructor
  · intro h
    have av : acK K p a = some (acV K p a) ∧ 0 ≤ acV K p a := by
      rcases b3 with z | z
      · omega
      · exact z
    have m1 := (pre_o hK p a _ (by omega)).1 (Mn_L hA (by omega)).1
    have r := (pre_old hK (by omega) m1).2
    have m2 := (cont_o hK (by omega) (by omega) r).1 (Mn_L hB (by omega)).1
    exact ⟨Ab, _, Be, m1, av.1, m2, by omega⟩
  · rintro ⟨c1, w, c2, g1, g2, g3, e⟩
    have r := (pre_old hK (by omega) g1).2
    have x1 := hA.1 c1 ((pre_o hK p a c1 (by omega)).2 g1)
    have x2 := hB.1 c2 ((cont_o hK (by omega) (by omega) r).2 g3)
    have x3 : acV K p a = w := by
      rcases b3 with z | z
      · rw [z.1] at g2
        cases g2
      · rw [z.1] at g2
        injection g2
    omega
theorem t_X2_costThrough {d : Nat} (hd : 1 ≤ d) {σ : Sto} {Q : Post} {p a : Int} (hp : 0 ≤ p ∧ p ≤ 50) (ha : 0 ≤ a ∧ a ≤ 600) (h : Q (some (.inl (σ 24 p a + σ 25 p a))) σ) : WPd d m_X2_costThrough [.inr (3, 0), .inl p, .inl a] σ Q := by
  obtain ⟨d, rfl⟩ : ∃ k, d = k + 1 := ⟨d - 1, by omega⟩
  intro P hP
  (refine go (t := tb_X2_costThrough) (WPd_mono d) hP 60 [] ?_; (conv => whnf); (repeat' (first | (refine ⟨fun _ => ?_, fun _ => ?_⟩ <;> first | (exfalso; omega) | (conv => whnf)) | (refine ⟨by omega, ?_⟩; conv => whnf) | (intro _; conv => whnf))))
  exact h
/-- both tables stand -/
def TabOk (σ : Sto) (K : KV) (p m : Nat) : Prop := σ 3 0 11 = old K ∧ (∀ a, 0 ≤ a → a ≤ old K → Mn (pre K (acK K) (old K) p a) 268435456 (σ 24 p a)) ∧ (∀ a, 0 ≤ a → a ≤ old K → Mn (cont K (acK K) (old K) m p a) 268435456 (σ 25 p a))
theorem TabOk_of {σ : Sto} {K : KV} (hr : RecOk σ K) (h12 : σ 3 0 12 = 1) (h13 : σ 3 0 13 = 1) {p m : Nat} (hp : (p : Int) + m = K 7 0) : TabOk σ K p m := by
  have b := hr.2.2.1 h12
  have a := (hr.2.2.2.1 h13).2
  refine ⟨b.1, fun x x0 x1 => ?_, fun x x0 x1 => ?_⟩
  · exact a p x (by omega) (by omega) x0 x1
  · have := b.2.1 p x (by omega) (by omega) x0 x1
    rwa [show (K 7 0 - (p : Int)).toNat = m by omega] at this
theorem t_X2_leastWithoutAsh {d : Nat} (hd : 6 ≤ d) {σ : Sto} {Q : Post} {K : KV} {p m : Nat} (hK : vwC σ 0 = K) (hw : WFK K) (hr : RecOk σ K) (hp : (p : Int) + m = K 7 0) (hq : ∀ σ' v, offR σ σ' → RecOk σ' K → TabOk σ' K p m → v ≤ 268435456 → (∀ a, 0 ≤ a → a ≤ old K → v ≤ σ' 24 p a + σ' 25 p a) → (v = 268435456 ∨ ∃ a, (0 ≤ a ∧ a ≤ old K) ∧ v = σ' 24 p a + σ' 25 p a) → Q (some (.inl v)) σ') : WPd d m_X2_leastWithoutAsh [.inr (3, 0), .inl p] σ Q := by
  obtain ⟨d, rfl⟩ : ∃ k, d = k + 1 := ⟨d - 1, by omega⟩
  refine wpd_of fun P hT hP => ?_
  have hn := hw.1
  have ob := old_b hw
  (refine go (t := tb_X2_leastWithoutAsh) (WPd_mono d) hP 60 [9] ?_; (conv => whnf); (repeat' (first | (refine ⟨fun _ => ?_, fun _ => ?_⟩ <;> first | (exfalso; omega) | (conv => whnf)) | (refine ⟨by omega, ?_⟩; conv => whnf) | (intro _; conv => whnf))))
  refine t_X2_makeAbove (by omega) hK hw hr (fun ρ fo ro t12 t13 => ?_)
  have tb := TabOk_of ro t12 t13 hp
  have t11 := tb.1
  have L : ∀ (n : Nat) (i v : Int), n = (old K + 1 - i).toNat → 0 ≤ i → i ≤ old K + 1 → -2000000000 ≤ v → v ≤ 268435456 → (∀ a, 0 ≤ a → a < i → v ≤ ρ 24 p a + ρ 25 p a) → (v = 268435456 ∨ ∃ a, (0 ≤ a ∧ a ≤ old K) ∧ v = ρ 24 p a + ρ 25 p a) → P 9 [.inr (3, 0), .inl p, .inl v, .inl i] [] ρ := by
    intro n
    induction n with
    | zero =>
      intro i v hn0 i0 i1 v0 v1 v2 v3
      have X := hq ρ v fo ro tb v1 (fun a a0 a1 => v2 a a0 (by omega)) v3
      clear v3
      (refine go (t := tb_X2_leastWithoutAsh) (WPd_mono d) hP 60 [9] ?_; (conv => whnf); (repeat' (first | (refine ⟨fun _ => ?_, fun _ => ?_⟩ <;> first | (exfalso; omega) | (conv => whnf)) | (refine ⟨by omega, ?_⟩; conv => whnf) | (intro _; conv => whnf))))
      exact X
    | succ n ih =>
      intro i v hn0 i0 i1 v0 v1 v2 v3
      have b1 := pre_v hw (by omega) (tb.2.1 i i0 (by omega))
      have b2 := cont_v hw (by omega) (tb.2.2 i i0 (by omega))
      have X := fun z1 z2 z3 => ih (i + 1) (min v (ρ 24 p i + ρ 25 p i)) z1 z2 z3 (by clear v3; omega) (by clear v3; omega) (fun a a0 a1 => by
        clear v3
        by_cases c : a = i
        · subst c
          omega
        · have := v2 a a0 (by omega)
          omega) (by
        by_cases c : v ≤ ρ 24 p i + ρ 25 p i
        · rw [Int.min_eq_left c]
          exact v3
        · rw [Int.min_eq_right (by clear v3; omega)]
          exact Or.inr ⟨i, ⟨i0, by clear v3; omega⟩, rfl⟩)
      clear v3
      (refine go (t := tb_X2_leastWithoutAsh) (WPd_mono d) hP 60 [9] ?_; (conv => whnf); (repeat' (first | (refine ⟨fun _ => ?_, fun _ => ?_⟩ <;> first | (exfalso; omega) | (conv => whnf)) | (refine ⟨by omega, ?_⟩; conv => whnf) | (intro _; conv => whnf))))
      refine t_X2_costThrough (by omega) (by omega) (by omega) ?_
      ((conv => whnf); (repeat' (first | (refine ⟨fun _ => ?_, fun _ => ?_⟩ <;> first | (exfalso; omega) | (conv => whnf)) | (refine ⟨by omega, ?_⟩; conv => whnf) | (intro _; conv => whnf))))
      exact X (by omega) (by omega) (by omega)
  ((conv => whnf); (repeat' (first | (refine ⟨fun _ => ?_, fun _ => ?_⟩ <;> first | (exfalso; omega) | (conv => whnf)) | (refine ⟨by omega, ?_⟩; conv => whnf) | (intro _; conv => whnf))))
  exact L _ 0 _ rfl (by omega) (by omega) (by decide) (by omega) (fun a a0 a1 => by omega) (Or.inl rfl)
theorem t_X2_leastWithAsh {d : Nat} (hd : 6 ≤ d) {σ : Sto} {Q : Post} {K : KV} {p m : Nat} {ma mu : Int} (hK : vwC σ 0 = K) (hw : WFK K) (hr : RecOk σ K) (hp : (p : Int) + m = K 7 0) (hma : 0 ≤ ma ∧ ma ≤ 500) (hmu : 0 ≤ mu ∧ mu ≤ 9) (hq : ∀ σ' v, offR σ σ' → RecOk σ' K → TabOk σ' K p m → v ≤ 268435456 → (∀ a, 0 ≤ a → a ≤ old K → dif a ma ≤ mu → v ≤ σ' 24 p a + σ' 25 p a + dif a ma * K 6 3) → (v = 268435456 ∨ ∃ a, (0 ≤ a ∧ a ≤ old K) ∧ dif a ma ≤ mu ∧ v = σ' 24 p a + σ' 25 p a + dif a ma * K 6 3) → Q (some (.inl v)) σ') : WPd d m_X2_leastWithAsh [.inr (3, 0), .inl p, .inl ma, .inl mu] σ Q := by
  obtain ⟨d, rfl⟩ : ∃ k, d = k + 1 := ⟨d - 1, by omega⟩
  refine wpd_of fun P hT hP => ?_
  have hn := hw.1
  have ob := old_b hw
  have gb := hw.2.2.2.2.2 3 (by omega) (by omega)
  (refine go (t := tb_X2_leastWithAsh) (WPd_mono d) hP 60 [29] ?_; (conv => whnf); (repeat' (first | (refine ⟨fun _ => ?_, fun _ => ?_⟩ <;> first | (exfalso; omega) | (conv => whnf)) | (refine ⟨by omega, ?_⟩; conv => whnf) | (intro _; conv => whnf))))
  refine t_X2_makeAbove (by omega) hK hw hr (fun ρ fo ro t12 t13 => ?_)
  have tb := TabOk_of ro t12 t13 hp
  have t11 := tb.1
  have h63 : K 6 3 = ρ 23 0 3 := by
    have := (vw_in (σ := σ) (c := 0)).2.2 (show (0 : Int) ≤ 3 by omega) (by omega)
    rw [hK] at this
    rw [this, fo 23 0 (by decide) (by decide) (by decide) (by decide)]
  rw [h63] at hq gb
  have L : ∀ (n : Nat) (i v : Int), n = (min (old K) (ma + mu) + 1 - i).toNat → max 0 (ma - mu) ≤ i → i ≤ max (min (old K) (ma + mu) + 1) (max 0 (ma - mu)) → -2000000000 ≤ v → v ≤ 268435456 → (∀ a, 0 ≤ a → a < i → dif a ma ≤ mu → v ≤ ρ 24 p a + ρ 25 p a + dif a ma * ρ 23 0 3) → (v = 268435456 ∨ ∃ a, (0 ≤ a ∧ a ≤ old K) ∧ dif a ma ≤ mu ∧ v = ρ 24 p a + ρ 25 p a + dif a ma * ρ 23 0 3) → P 29 [.inr (3, 0), .inl p, .inl ma, .inl mu, .inl v, .inl (min (old K) (ma + mu)), .inl i] [] ρ := by
    intro n
    induction n with
    | zero =>
      intro i v hn0 i0 i1 v0 v1 v2 v3
      have X := hq ρ v fo ro tb v1 (fun a a0 a1 ad => v2 a a0 (by
        clear v3
        unfold dif at ad
        omega) ad) v3
      clear v3
      (refine go (t := tb_X2_leastWithAsh) (WPd_mono d) hP 60 [29] ?_; (conv => whnf); (repeat' (first | (refine ⟨fun _ => ?_, fun _ => ?_⟩ <;> first | (exfalso; omega) | (conv => whnf)) | (refine ⟨by omega, ?_⟩; conv => whnf) | (intro _; conv => whnf))))
      exact X
    | succ n ih =>
      intro i v hn0 i0 i1 v0 v1 v2 v3
      have i2 : 0 ≤ i ∧ i ≤ old K := by clear v3; omega
      have id : dif i ma ≤ mu := by
        clear v3
        unfold dif
        omega
      have id0 : 0 ≤ dif i ma := by
        clear v3
        unfold dif
        omega
      have b1 := pre_v hw (by clear v3; omega) (tb.2.1 i i2.1 i2.2)
      have b2 := cont_v hw (by clear v3; omega) (tb.2.2 i i2.1 i2.2)
      have b3 := mul_b (G := 9) (X := 50) id0 (by clear v3; omega) gb.1 gb.2
      have X := fun z1 z2 z3 => ih (i + 1) (min v (ρ 24 p i + ρ 25 p i + dif i ma * ρ 23 0 3)) z1 z2 z3 (by clear v3; omega) (by clear v3; omega) (fun a a0 a1 ad => by
        clear v3
        by_cases c : a = i
        · subst c
          omega
        · have := v2 a a0 (by omega) ad
          omega) (by
        by_cases c : v ≤ ρ 24 p i + ρ 25 p i + dif i ma * ρ 23 0 3
        · rw [Int.min_eq_left c]
          exact v3
        · rw [Int.min_eq_right (by clear v3; omega)]
          exact Or.inr ⟨i, i2, id, rfl⟩)
      clear v3
      (refine go (t := tb_X2_leastWithAsh) (WPd_mono d) hP 60 [29] ?_; (conv => whnf); (repeat' (first | (refine ⟨fun _ => ?_, fun _ => ?_⟩ <;> first | (exfalso; omega) | (conv => whnf)) | (refine ⟨by omega, ?_⟩; conv => whnf) | (intro _; conv => whnf))))
      rw [show max (i - ma) (-(i - ma)) = dif i ma from rfl]
      refine t_X2_costThrough (by omega) (by omega) (by omega) ?_
      ((conv => whnf); (repeat' (first | (refine ⟨fun _ => ?_, fun _ => ?_⟩ <;> first | (exfalso; omega) | (conv => whnf)) | (refine ⟨by omega, ?_⟩; conv => whnf) | (intro _; conv => whnf))))
      (refine hT 7 ?_; exact (X (by omega) (by omega) (by omega)))
  ((conv => whnf); (repeat' (first | (refine ⟨fun _ => ?_, fun _ => ?_⟩ <;> first | (exfalso; omega) | (conv => whnf)) | (refine ⟨by omega, ?_⟩; conv => whnf) | (intro _; conv => whnf))))
  rw [t11]
  exact L _ _ _ rfl (by omega) (by omega) (by decide) (by omega) (fun a a0 a1 ad => by
    unfold dif at ad
    omega) (Or.inl rfl)
end
section
/-! THE CLASS: bound, without, costWith -/
theorem acV_s {σ : Sto} {K : KV} (hK : vwC σ 0 = K) (hw : WFK K) (p a : Int) : aCst (axK K p) a (σ 21 0 (axK K p)) (σ 22 0 (axK K p)) (σ 23 0 3) = acV K p a ∧ (0 ≤ axK K p → 0 ≤ σ 21 0 (axK K p) ∧ σ 21 0 (axK K p) ≤ 500) ∧ (-1 ≤ axK K p ∧ axK K p < 6) := by
  have bx := axK_of K p hw.2.1.1
  have hm := hw.2.1
  have t := acV_of hw p a
  have h6 : K 6 3 = σ 23 0 3 := by
    have := (vw_in (σ := σ) (c := 0)).2.2 (show (0 : Int) ≤ 3 by omega) (by omega)
    rwa [hK] at this
  by_cases e : axK K p = -1
  · refine ⟨?_, fun h => by omega, by omega⟩
    rw [← t.1]
    unfold aCst
    rw [if_pos e, if_pos e]
  · have lt : axK K p < σ 16 0 8 := by
      have : σ 16 0 8 = K 7 1 := by rw [← hK, vw_a]
      omega
    obtain ⟨v0, v1, v2⟩ := (vw_in (σ := σ) (c := 0)).2.1 (show 0 ≤ axK K p by omega) lt
    rw [hK] at v1 v2
    have u := hw.2.2.2.1 (axK K p) (by omega) (by omega)
    refine ⟨?_, fun h => by omega, by omega⟩
    rw [← t.1, h6, v1, v2]
theorem t_X2_leastAge {d : Nat} (hd : 6 ≤ d) {σ : Sto} {Q : Post} {K : KV} {p m : Nat} {lim : Int} (hK : vwC σ 0 = K) (hw : WFK K) (hr : RecOk σ K) (hp : (p : Int) + m = K 7 0) (hl : 0 ≤ lim ∧ lim < 268435456) (hex : ∃ a, BS K p m lim a) (hq : ∀ σ' a, offR σ σ' → RecOk σ' K → BS K p m lim a → (∀ a', BS K p m lim a' → a ≤ a') → Q (some (.inl a)) σ') : WPd d m_X2_leastAge [.inr (3, 0), .inl p, .inl lim] σ Q := by
  obtain ⟨d, rfl⟩ : ∃ k, d = k + 1 := ⟨d - 1, by omega⟩
  refine wpd_of fun P hT hP => ?_
  have hn := hw.1
  have ob := old_b hw
  obtain ⟨x, hx⟩ := hex
  have xo : 0 ≤ x ∧ x ≤ old K := by
    obtain ⟨c1, w, c2, g1, g2, g3, e⟩ := hx
    exact (pre_old hw (by omega) g1).1
  (refine go (t := tb_X2_leastAge) (WPd_mono d) hP 60 [16] ?_; (conv => whnf); (repeat' (first | (refine ⟨fun _ => ?_, fun _ => ?_⟩ <;> first | (exfalso; omega) | (conv => whnf)) | (refine ⟨by omega, ?_⟩; conv => whnf) | (intro _; conv => whnf))))
  refine t_X2_makeAbove (by omega) hK hw hr (fun ρ fo ro t12 t13 => ?_)
  have tb := TabOk_of ro t12 t13 hp
  have t11 := tb.1
  have fK : vwC ρ 0 = K := by rw [fo.core]; exact hK
  have ha : 0 ≤ ρ 16 0 8 ∧ ρ 16 0 8 ≤ 6 := by rw [show ρ 16 0 8 = K 7 1 by rw [← fK, vw_a]]; exact hw.2.1
  have L : ∀ (n : Nat) (i : Int), n = (old K + 1 - i).toNat → 0 ≤ i → i ≤ old K + 1 → (∀ a, BS K p m lim a → i ≤ a) → P 16 [.inr (3, 0), .inl p, .inl lim, .inl (axK K p), .inl i] [] ρ := by
    intro n
    induction n with
    | zero =>
      intro i hn0 i0 i1 iv
      have := iv x hx
      exfalso
      omega
    | succ n ih =>
      intro i hn0 i0 i1 iv
      have b1 := pre_v hw (by omega) (tb.2.1 i i0 (by omega))
      have b2 := cont_v hw (by omega) (tb.2.2 i i0 (by omega))
      have b3 := acV_of hw p i
      have as := acV_s fK hw p i
      have bv := BS_v hw hp hl.2 i0 (by omega) (tb.2.1 i i0 (by omega)) (tb.2.2 i i0 (by omega))
      have X := fun z1 z2 z3 (q : ¬ ρ 24 p i + ρ 25 p i + acV K p i ≤ lim) => ih (i + 1) z1 z2 z3 (fun a ha => by
        have := iv a ha
        by_cases c : a = i
        · subst c
          exact absurd (bv.2 ha) q
        · omega)
      have Y := fun (q : ρ 24 p i + ρ 25 p i + acV K p i ≤ lim) => hq ρ i fo ro (bv.1 q) iv
      clear bv
      (refine go (t := tb_X2_leastAge) (WPd_mono d) hP 60 [16] ?_; (conv => whnf); (repeat' (first | (refine ⟨fun _ => ?_, fun _ => ?_⟩ <;> first | (exfalso; omega) | (conv => whnf)) | (refine ⟨by omega, ?_⟩; conv => whnf) | (intro _; conv => whnf))))
      refine t_X2_costThrough (by omega) (by omega) (by omega) ?_
      ((conv => whnf); (repeat' (first | (refine ⟨fun _ => ?_, fun _ => ?_⟩ <;> first | (exfalso; omega) | (conv => whnf)) | (refine ⟨by omega, ?_⟩; conv => whnf) | (intro _; conv => whnf))))
      refine t_X0_ashCost (by omega) (by omega) (by omega) (fun h => ?_) ?_
      · have := as.2.1 h
        omega
      · rw [as.1]
        ((conv => whnf); (repeat' (first | (refine ⟨fun _ => ?_, fun _ => ?_⟩ <;> first | (exfalso; omega) | (conv => whnf)) | (refine ⟨by omega, ?_⟩; conv => whnf) | (intro _; conv => whnf))))
        · exact X (by omega) (by omega) (by omega) (by omega)
        · exact Y (by omega)
  ((conv => whnf); (repeat' (first | (refine ⟨fun _ => ?_, fun _ => ?_⟩ <;> first | (exfalso; omega) | (conv => whnf)) | (refine ⟨by omega, ?_⟩; conv => whnf) | (intro _; conv => whnf))))
  refine t_X0_ashAt (by omega) (by omega) ha ?_
  rw [ax_vw, fK]
  ((conv => whnf); (repeat' (first | (refine ⟨fun _ => ?_, fun _ => ?_⟩ <;> first | (exfalso; omega) | (conv => whnf)) | (refine ⟨by omega, ?_⟩; conv => whnf) | (intro _; conv => whnf))))
  exact L _ 0 rfl (by omega) (by omega) (fun a ha => by
    obtain ⟨c1, w, c2, g1, g2, g3, e⟩ := ha
    exact (pre_old hw (by omega) g1).1.1)
theorem t_X2_greatestAge {d : Nat} (hd : 6 ≤ d) {σ : Sto} {Q : Post} {K : KV} {p m : Nat} {lim : Int} (hK : vwC σ 0 = K) (hw : WFK K) (hr : RecOk σ K) (hp : (p : Int) + m = K 7 0) (hl : 0 ≤ lim ∧ lim < 268435456) (hex : ∃ a, BS K p m lim a) (hq : ∀ σ' a, offR σ σ' → RecOk σ' K → BS K p m lim a → (∀ a', BS K p m lim a' → a' ≤ a) → Q (some (.inl a)) σ') : WPd d m_X2_greatestAge [.inr (3, 0), .inl p, .inl lim] σ Q := by
  obtain ⟨d, rfl⟩ : ∃ k, d = k + 1 := ⟨d - 1, by omega⟩
  refine wpd_of fun P hT hP => ?_
  have hn := hw.1
  have ob := old_b hw
  obtain ⟨x, hx⟩ := hex
  have xo : 0 ≤ x ∧ x ≤ old K := by
    obtain ⟨c1, w, c2, g1, g2, g3, e⟩ := hx
    exact (pre_old hw (by omega) g1).1
  (refine go (t := tb_X2_greatestAge) (WPd_mono d) hP 60 [19] ?_; (conv => whnf); (repeat' (first | (refine ⟨fun _ => ?_, fun _ => ?_⟩ <;> first | (exfalso; omega) | (conv => whnf)) | (refine ⟨by omega, ?_⟩; conv => whnf) | (intro _; conv => whnf))))
  refine t_X2_makeAbove (by omega) hK hw hr (fun ρ fo ro t12 t13 => ?_)
  have tb := TabOk_of ro t12 t13 hp
  have t11 := tb.1
  have fK : vwC ρ 0 = K := by rw [fo.core]; exact hK
  have ha : 0 ≤ ρ 16 0 8 ∧ ρ 16 0 8 ≤ 6 := by rw [show ρ 16 0 8 = K 7 1 by rw [← fK, vw_a]]; exact hw.2.1
  have L : ∀ (n : Nat) (i : Int), n = (i + 1).toNat → -1 ≤ i → i ≤ old K → (∀ a, BS K p m lim a → a ≤ i) → P 19 [.inr (3, 0), .inl p, .inl lim, .inl (axK K p), .inl i] [] ρ := by
    intro n
    induction n with
    | zero =>
      intro i hn0 i0 i1 iv
      have := iv x hx
      exfalso
      omega
    | succ n ih =>
      intro i hn0 i0 i1 iv
      have b1 := pre_v hw (by omega) (tb.2.1 i (by omega) (by omega))
      have b2 := cont_v hw (by omega) (tb.2.2 i (by omega) (by omega))
      have b3 := acV_of hw p i
      have as := acV_s fK hw p i
      have bv := BS_v hw hp hl.2 (by omega) (by omega) (tb.2.1 i (by omega) (by omega)) (tb.2.2 i (by omega) (by omega))
      have X := fun z1 z2 z3 (q : ¬ ρ 24 p i + ρ 25 p i + acV K p i ≤ lim) => ih (i - 1) z1 z2 z3 (fun a ha => by
        have := iv a ha
        by_cases c : a = i
        · subst c
          exact absurd (bv.2 ha) q
        · omega)
      have Y := fun (q : ρ 24 p i + ρ 25 p i + acV K p i ≤ lim) => hq ρ i fo ro (bv.1 q) iv
      clear bv
      (refine go (t := tb_X2_greatestAge) (WPd_mono d) hP 60 [19] ?_; (conv => whnf); (repeat' (first | (refine ⟨fun _ => ?_, fun _ => ?_⟩ <;> first | (exfalso; omega) | (conv => whnf)) | (refine ⟨by omega, ?_⟩; conv => whnf) | (intro _; conv => whnf))))
      refine t_X2_costThrough (by omega) (by omega) (by omega) ?_
      ((conv => whnf); (repeat' (first | (refine ⟨fun _ => ?_, fun _ => ?_⟩ <;> first | (exfalso; omega) | (conv => whnf)) | (refine ⟨by omega, ?_⟩; conv => whnf) | (intro _; conv => whnf))))
      refine t_X0_ashCost (by omega) (by omega) (by omega) (fun h => ?_) ?_
      · have := as.2.1 h
        omega
      · rw [as.1]
        ((conv => whnf); (repeat' (first | (refine ⟨fun _ => ?_, fun _ => ?_⟩ <;> first | (exfalso; omega) | (conv => whnf)) | (refine ⟨by omega, ?_⟩; conv => whnf) | (intro _; conv => whnf))))
        · exact X (by omega) (by omega) (by omega) (by omega)
        · exact Y (by omega)
  ((conv => whnf); (repeat' (first | (refine ⟨fun _ => ?_, fun _ => ?_⟩ <;> first | (exfalso; omega) | (conv => whnf)) | (refine ⟨by omega, ?_⟩; conv => whnf) | (intro _; conv => whnf))))
  refine t_X0_ashAt (by omega) (by omega) ha ?_
  rw [ax_vw, fK]
  ((conv => whnf); (repeat' (first | (refine ⟨fun _ => ?_, fun _ => ?_⟩ <;> first | (exfalso; omega) | (conv => whnf)) | (refine ⟨by omega, ?_⟩; conv => whnf) | (intro _; conv => whnf))))
  rw [t11]
  exact L _ _ rfl (by omega) (by omega) (fun a ha => by
    obtain ⟨c1, w, c2, g1, g2, g3, e⟩ := ha
    exact (pre_old hw (by omega) g1).1.2)
theorem t_X4_costOrNotFound {d : Nat} (hd : 1 ≤ d) {σ : Sto} {Q : Post} {v : Int} (hv : inR v) (h1 : v < 268435456 → Q (some (.inl v)) σ) (h0 : ¬ v < 268435456 → Q (some (.inl (-4))) σ) : WPd d m_X4_costOrNotFound [.inl v] σ Q := by
  obtain ⟨d, rfl⟩ : ∃ k, d = k + 1 := ⟨d - 1, by omega⟩
  intro P hP
  (refine go (t := tb_X4_costOrNotFound) (WPd_mono d) hP 60 [] ?_; (conv => whnf); (repeat' (first | (refine ⟨fun _ => ?_, fun _ => ?_⟩ <;> first | (exfalso; omega) | (conv => whnf)) | (refine ⟨by omega, ?_⟩; conv => whnf) | (intro _; conv => whnf))))
  · exact h0 (by omega)
  · exact h1 (by omega)
theorem t_X4_bound {d : Nat} (hd : 7 ≤ d) {σ : Sto} {Q : Post} {K : KV} {h : Int} {HK : Int → KV} {tl : Int} {tx : Int → Int} {p s w : Int} (hC : ClassR σ K h HK tl tx) (hp : inR p) (hs : inR s) (hw0 : inR w) (hbad : ¬ ((0 ≤ p ∧ p ≤ K 7 0) ∧ (0 ≤ s ∧ s ≤ 200) ∧ (0 ≤ w ∧ w ≤ 1)) → Q (some (.inl (-1))) σ) (hno : (0 ≤ p ∧ p ≤ K 7 0) ∧ (0 ≤ s ∧ s ≤ 200) ∧ (0 ≤ w ∧ w ≤ 1) → (∀ c, ¬ CS K c) → ∀ σ', ClassR σ' K h HK tl tx → frC σ σ' → Q (some (.inl (-4))) σ') (hyes : (0 ≤ p ∧ p ≤ K 7 0) ∧ (0 ≤ s ∧ s ≤ 200) ∧ (0 ≤ w ∧ w ≤ 1) → ∀ c0, isL (CS K) c0 → ∀ a, BS K p.toNat (K 7 0 - p).toNat (c0 + s) a → (w = 0 → ∀ a', BS K p.toNat (K 7 0 - p).toNat (c0 + s) a' → a ≤ a') → (w = 1 → ∀ a', BS K p.toNat (K 7 0 - p).toNat (c0 + s) a' → a' ≤ a) → ∀ σ', ClassR σ' K h HK tl tx → frC σ σ' → Q (some (.inl a)) σ') : WPd d m_X4_bound [.inr (0, 0), .inl p, .inl s, .inl w] σ Q := by
  obtain ⟨d, rfl⟩ : ∃ k, d = k + 1 := ⟨d - 1, by omega⟩
  intro P hP
  obtain ⟨hK, hw, hh, htx, hr⟩ := hC
  have hn := hw.1
  have n2 : σ 16 0 7 = K 7 0 := by rw [← hK, vw_n]
  (refine go (t := tb_X4_bound) (WPd_mono d) hP 60 [] ?_; (conv => whnf); (repeat' (first | (refine ⟨fun _ => ?_, fun _ => ?_⟩ <;> first | (exfalso; omega) | (conv => whnf)) | (refine ⟨by omega, ?_⟩; conv => whnf) | (intro _; conv => whnf))))
  refine t_X4_isPlace (by omega) hp (by omega) (fun q1 => ?_) (fun q => ?_)
  · ((conv => whnf); (repeat' (first | (refine ⟨fun _ => ?_, fun _ => ?_⟩ <;> first | (exfalso; omega) | (conv => whnf)) | (refine ⟨by omega, ?_⟩; conv => whnf) | (intro _; conv => whnf))))
    refine t_X4_isWithin (by omega) hs (by omega) (by omega) (fun q2 => ?_) (fun q => ?_)
    · ((conv => whnf); (repeat' (first | (refine ⟨fun _ => ?_, fun _ => ?_⟩ <;> first | (exfalso; omega) | (conv => whnf)) | (refine ⟨by omega, ?_⟩; conv => whnf) | (intro _; conv => whnf))))
      refine t_X4_isWithin (by omega) hw0 (by omega) (by omega) (fun q3 => ?_) (fun q => ?_)
      · have cd : (0 ≤ p ∧ p ≤ K 7 0) ∧ (0 ≤ s ∧ s ≤ 200) ∧ (0 ≤ w ∧ w ≤ 1) := by omega
        ((conv => whnf); (repeat' (first | (refine ⟨fun _ => ?_, fun _ => ?_⟩ <;> first | (exfalso; omega) | (conv => whnf)) | (refine ⟨by omega, ?_⟩; conv => whnf) | (intro _; conv => whnf))))
        refine t_X2_hasCount (by omega) hK hw hr (fun ρ fo ro t12 lt b0 => ?_) (fun ρ fo ro no => ?_)
        · have lc := Mn_L b0 lt
          have cb := cont_lt hw (acK_g hw) (by omega) lc.1
          have Y := hyes cd _ lc
          obtain ⟨pn, rfl⟩ : ∃ pn : Nat, p = pn := ⟨p.toNat, by omega⟩
          obtain ⟨m, hm⟩ : ∃ m : Nat, (K 7 0 - (pn : Int)).toNat = m := ⟨_, rfl⟩
          rw [hm, show ((pn : Int)).toNat = pn by omega] at Y
          have fK : vwC ρ 0 = K := by rw [fo.core]; exact hK
          have ex := BS_ex hw (show (pn : Int) + m = K 7 0 by omega) (lim := ρ 25 0 0 + s) lc.1 (by omega)
          ((conv => whnf); (repeat' (first | (refine ⟨fun _ => ?_, fun _ => ?_⟩ <;> first | (exfalso; omega) | (conv => whnf)) | (refine ⟨by omega, ?_⟩; conv => whnf) | (intro _; conv => whnf))))
          refine t_X2_leastCost (by omega) ?_
          by_cases c : w = 0
          · ((conv => whnf); (repeat' (first | (refine ⟨fun _ => ?_, fun _ => ?_⟩ <;> first | (exfalso; omega) | (conv => whnf)) | (refine ⟨by omega, ?_⟩; conv => whnf) | (intro _; conv => whnf))))
            refine t_X2_leastAge (by omega) fK hw ro (show (pn : Int) + m = K 7 0 by omega) (by omega) ex (fun τ a fo2 ro2 g1 g2 => ?_)
            have cr := ClassR_R ⟨hK, hw, hh, htx, hr⟩ (fo.tr fo2) ro2
            ((conv => whnf); (repeat' (first | (refine ⟨fun _ => ?_, fun _ => ?_⟩ <;> first | (exfalso; omega) | (conv => whnf)) | (refine ⟨by omega, ?_⟩; conv => whnf) | (intro _; conv => whnf))))
            exact Y a g1 (fun _ => g2) (fun e => by omega) τ cr.1 cr.2
          · ((conv => whnf); (repeat' (first | (refine ⟨fun _ => ?_, fun _ => ?_⟩ <;> first | (exfalso; omega) | (conv => whnf)) | (refine ⟨by omega, ?_⟩; conv => whnf) | (intro _; conv => whnf))))
            refine t_X2_greatestAge (by omega) fK hw ro (show (pn : Int) + m = K 7 0 by omega) (by omega) ex (fun τ a fo2 ro2 g1 g2 => ?_)
            have cr := ClassR_R ⟨hK, hw, hh, htx, hr⟩ (fo.tr fo2) ro2
            ((conv => whnf); (repeat' (first | (refine ⟨fun _ => ?_, fun _ => ?_⟩ <;> first | (exfalso; omega) | (conv => whnf)) | (refine ⟨by omega, ?_⟩; conv => whnf) | (intro _; conv => whnf))))
            exact Y a g1 (fun e => by omega) (fun _ => g2) τ cr.1 cr.2
        · have cr := ClassR_R ⟨hK, hw, hh, htx, hr⟩ fo ro
          ((conv => whnf); (repeat' (first | (refine ⟨fun _ => ?_, fun _ => ?_⟩ <;> first | (exfalso; omega) | (conv => whnf)) | (refine ⟨by omega, ?_⟩; conv => whnf) | (intro _; conv => whnf))))
          exact hno cd no ρ cr.1 cr.2
      · ((conv => whnf); (repeat' (first | (refine ⟨fun _ => ?_, fun _ => ?_⟩ <;> first | (exfalso; omega) | (conv => whnf)) | (refine ⟨by omega, ?_⟩; conv => whnf) | (intro _; conv => whnf))))
        exact hbad (fun e => q e.2.2)
    · ((conv => whnf); (repeat' (first | (refine ⟨fun _ => ?_, fun _ => ?_⟩ <;> first | (exfalso; omega) | (conv => whnf)) | (refine ⟨by omega, ?_⟩; conv => whnf) | (intro _; conv => whnf))))
      exact hbad (fun e => q e.2.1)
  · ((conv => whnf); (repeat' (first | (refine ⟨fun _ => ?_, fun _ => ?_⟩ <;> first | (exfalso; omega) | (conv => whnf)) | (refine ⟨by omega, ?_⟩; conv => whnf) | (intro _; conv => whnf))))
    exact hbad (fun e => q (by omega))
/-- without an ash; with one more -/
def CSw (K : KV) (x c : Int) : Prop := cont K (acB0 K x 0) 600 (K 7 0).toNat 0 0 c
def CSp (K : KV) (p a u c : Int) : Prop := cont K (acG K (-1) p a u 0) 600 (K 7 0).toNat 0 0 c
theorem t_X4_without {d : Nat} (hd : 7 ≤ d) {σ : Sto} {Q : Post} {K : KV} {h : Int} {HK : Int → KV} {tl : Int} {tx : Int → Int} {x : Int} (hC : ClassR σ K h HK tl tx) (hx : inR x) (hbad : ¬ (0 ≤ x ∧ x < K 7 1) → Q (some (.inl (-1))) σ) (hno : (0 ≤ x ∧ x < K 7 1) → (∀ c, ¬ CSw K x c) → ∀ σ', ClassR σ' K h HK tl tx → frC σ σ' → Q (some (.inl (-4))) σ') (hyes : (0 ≤ x ∧ x < K 7 1) → ∀ v, isL (CSw K x) v → ∀ σ', ClassR σ' K h HK tl tx → frC σ σ' → Q (some (.inl v)) σ') : WPd d m_X4_without [.inr (0, 0), .inl x] σ Q := by
  obtain ⟨d, rfl⟩ : ∃ k, d = k + 1 := ⟨d - 1, by omega⟩
  intro P hP
  obtain ⟨hK, hw, hh, htx, hr⟩ := hC
  have hn := hw.1
  have hm := hw.2.1
  have a2 : σ 16 0 8 = K 7 1 := by rw [← hK, vw_a]
  (refine go (t := tb_X4_without) (WPd_mono d) hP 60 [] ?_; (conv => whnf); (repeat' (first | (refine ⟨fun _ => ?_, fun _ => ?_⟩ <;> first | (exfalso; omega) | (conv => whnf)) | (refine ⟨by omega, ?_⟩; conv => whnf) | (intro _; conv => whnf))))
  refine t_X4_isAsh (by omega) hx (by omega) (fun q1 => ?_) (fun q => ?_)
  · have q1' : 0 ≤ x ∧ x < K 7 1 := by omega
    obtain ⟨v0, v1, v2⟩ := (vw_in (σ := σ) (c := 0)).2.1 q1.1 q1.2
    rw [hK] at v0
    have pb := (hw.2.2.2.1 x q1'.1 q1'.2).1
    ((conv => whnf); (repeat' (first | (refine ⟨fun _ => ?_, fun _ => ?_⟩ <;> first | (exfalso; omega) | (conv => whnf)) | (refine ⟨by omega, ?_⟩; conv => whnf) | (intro _; conv => whnf))))
    rw [← v0]
    obtain ⟨pn, hpn⟩ : ∃ pn : Nat, K 3 x = pn := ⟨(K 3 x).toNat, by omega⟩
    obtain ⟨m, hm2⟩ : ∃ m : Nat, (K 7 0 - (pn : Int)).toNat = m := ⟨_, rfl⟩
    rw [hpn]
    have xat := axK_at hw q1'.1 q1'.2
    rw [hpn] at xat
    have acp : ∀ a, acB0 K x 0 pn a = some 0 := fun a => by
      unfold acB0
      rw [if_pos (Or.inr xat)]
    have hs : ∀ (q : Int) y, 0 ≤ q → q ≠ pn → acB0 K x 0 q y = acK K q y := fun q y q0 qn => by
      have bx := axK_of K q hw.2.1.1
      have ne : axK K q ≠ x := fun e => by
        rcases bx with z | z
        · omega
        · rw [e, hpn] at z
          omega
      unfold acB0 acK
      rw [Int.add_zero]
      by_cases c : axK K q = -1
      · rw [if_pos c, if_pos (Or.inl c)]
      · rw [if_neg c, if_neg (show ¬ (axK K q = -1 ∨ axK K q = x) by omega)]
    have h00 : acB0 K x 0 0 0 = some 0 := by
      unfold acB0
      rw [if_pos (Or.inl (axK_z hw))]
    have hac : acB (acB0 K x 0) 60000 := fun p a w e => by
      have := acB0_g hw (l := x) (wi := 0) (by omega) p a w e
      omega
    have hpm : (pn : Int) + m = K 7 0 := by omega
    have hN : (K 7 0).toNat = pn + m := by omega
    refine t_X2_leastWithoutAsh (by omega) hK hw hr (show (pn : Int) + m = K 7 0 by omega) (fun ρ v fo ro tb l1 l2 l3 => ?_)
    have cr := ClassR_R ⟨hK, hw, hh, htx, hr⟩ fo ro
    have mn : Mn (CSw K x) 268435456 v := by
      have := Mn_thru hw hac (p := pn) (m := m) hpm h00 hs tb.2.1 tb.2.2 l1 (fun a w a0 a1 e => by
        rw [acp a] at e
        cases e
        have := l2 a a0 a1
        omega) (by
        rcases l3 with z | ⟨a, ab, e⟩
        · exact Or.inl z
        · exact Or.inr ⟨a, 0, ab, acp a, by omega⟩)
      unfold CSw
      rwa [hN]
    clear l3
    have v0 := Mn_0 mn (by omega) (fun c hc => (cont_lt hw hac (by omega) hc).1)
    ((conv => whnf); (repeat' (first | (refine ⟨fun _ => ?_, fun _ => ?_⟩ <;> first | (exfalso; omega) | (conv => whnf)) | (refine ⟨by omega, ?_⟩; conv => whnf) | (intro _; conv => whnf))))
    refine t_X4_costOrNotFound (by omega) (by omega) (fun lt => ?_) (fun ge => ?_)
    · ((conv => whnf); (repeat' (first | (refine ⟨fun _ => ?_, fun _ => ?_⟩ <;> first | (exfalso; omega) | (conv => whnf)) | (refine ⟨by omega, ?_⟩; conv => whnf) | (intro _; conv => whnf))))
      exact hyes q1' v (Mn_L mn lt) ρ cr.1 cr.2
    · ((conv => whnf); (repeat' (first | (refine ⟨fun _ => ?_, fun _ => ?_⟩ <;> first | (exfalso; omega) | (conv => whnf)) | (refine ⟨by omega, ?_⟩; conv => whnf) | (intro _; conv => whnf))))
      exact hno q1' (Mn_no mn ge) ρ cr.1 cr.2
  · ((conv => whnf); (repeat' (first | (refine ⟨fun _ => ?_, fun _ => ?_⟩ <;> first | (exfalso; omega) | (conv => whnf)) | (refine ⟨by omega, ?_⟩; conv => whnf) | (intro _; conv => whnf))))
    exact hbad (fun e => q (by omega))
theorem t_X4_costWith {d : Nat} (hd : 7 ≤ d) {σ : Sto} {Q : Post} {K : KV} {h : Int} {HK : Int → KV} {tl : Int} {tx : Int → Int} {p a u : Int} (hC : ClassR σ K h HK tl tx) (hp : inR p) (ha : inR a) (hu : inR u) (hbad : ¬ ((1 ≤ p ∧ p ≤ K 7 0) ∧ (0 ≤ a ∧ a ≤ 500) ∧ (0 ≤ u ∧ u ≤ 9)) → Q (some (.inl (-1))) σ) (htwo : (1 ≤ p ∧ p ≤ K 7 0) ∧ (0 ≤ a ∧ a ≤ 500) ∧ (0 ≤ u ∧ u ≤ 9) → axK K p ≠ -1 → Q (some (.inl (-2))) σ) (hno : (1 ≤ p ∧ p ≤ K 7 0) ∧ (0 ≤ a ∧ a ≤ 500) ∧ (0 ≤ u ∧ u ≤ 9) → axK K p = -1 → (∀ c, ¬ CSp K p a u c) → ∀ σ', ClassR σ' K h HK tl tx → frC σ σ' → Q (some (.inl (-4))) σ') (hyes : (1 ≤ p ∧ p ≤ K 7 0) ∧ (0 ≤ a ∧ a ≤ 500) ∧ (0 ≤ u ∧ u ≤ 9) → axK K p = -1 → ∀ v, isL (CSp K p a u) v → ∀ σ', ClassR σ' K h HK tl tx → frC σ σ' → Q (some (.inl v)) σ') : WPd d m_X4_costWith [.inr (0, 0), .inl p, .inl a, .inl u] σ Q := by
  obtain ⟨d, rfl⟩ : ∃ k, d = k + 1 := ⟨d - 1, by omega⟩
  intro P hP
  obtain ⟨hK, hw, hh, htx, hr⟩ := hC
  have hn := hw.1
  have hm := hw.2.1
  have a2 : σ 16 0 8 = K 7 1 := by rw [← hK, vw_a]
  have n2 : σ 16 0 7 = K 7 0 := by rw [← hK, vw_n]
  have bx := axK_of K p hw.2.1.1
  (refine go (t := tb_X4_costWith) (WPd_mono d) hP 60 [] ?_; (conv => whnf); (repeat' (first | (refine ⟨fun _ => ?_, fun _ => ?_⟩ <;> first | (exfalso; omega) | (conv => whnf)) | (refine ⟨by omega, ?_⟩; conv => whnf) | (intro _; conv => whnf))))
  refine t_X4_isAshOfRange (by omega) hp ha hu (by omega) (fun q1 => ?_) (fun q => ?_)
  · have q1' : (1 ≤ p ∧ p ≤ K 7 0) ∧ (0 ≤ a ∧ a ≤ 500) ∧ (0 ≤ u ∧ u ≤ 9) := by omega
    ((conv => whnf); (repeat' (first | (refine ⟨fun _ => ?_, fun _ => ?_⟩ <;> first | (exfalso; omega) | (conv => whnf)) | (refine ⟨by omega, ?_⟩; conv => whnf) | (intro _; conv => whnf))))
    refine t_X0_ashAt (by omega) (by omega) (by omega) ?_
    rw [ax_vw, hK]
    by_cases c : axK K p = -1
    · rw [c]
      ((conv => whnf); (repeat' (first | (refine ⟨fun _ => ?_, fun _ => ?_⟩ <;> first | (exfalso; omega) | (conv => whnf)) | (refine ⟨by omega, ?_⟩; conv => whnf) | (intro _; conv => whnf))))
      obtain ⟨pn, rfl⟩ : ∃ pn : Nat, p = pn := ⟨p.toNat, by omega⟩
      obtain ⟨m, hm2⟩ : ∃ m : Nat, (K 7 0 - (pn : Int)).toNat = m := ⟨_, rfl⟩
      have acp : ∀ x, acG K (-1) pn a u 0 pn x = if u + 0 < dif x a then none else some (0 + dif x a * K 6 3) := fun x => by
        unfold acG acP1 acB0
        rw [if_pos rfl, if_pos (Or.inl c)]
      have hs : ∀ (q : Int) y, 0 ≤ q → q ≠ pn → acG K (-1) pn a u 0 q y = acK K q y := fun q y q0 qn => by
        unfold acG
        rw [if_neg qn, acK_0]
      have h00 : acG K (-1) pn a u 0 0 0 = some 0 := by
        rw [hs 0 0 (by omega) (by omega)]
        exact acK_z hw
      have hac := acG_g hw (l := -1) (mp := pn) (ma := a) (mu := u) (wi := 0) (by omega) (by omega)
      have hpm : (pn : Int) + m = K 7 0 := by omega
      have hN : (K 7 0).toNat = pn + m := by omega
      refine t_X2_leastWithAsh (by omega) hK hw hr (show (pn : Int) + m = K 7 0 by omega) q1'.2.1 q1'.2.2 (fun ρ v fo ro tb l1 l2 l3 => ?_)
      have cr := ClassR_R ⟨hK, hw, hh, htx, hr⟩ fo ro
      have mn : Mn (CSp K pn a u) 268435456 v := by
        have := Mn_thru hw hac (p := pn) (m := m) hpm h00 hs tb.2.1 tb.2.2 l1 (fun x w a0 a1 e => by
          rw [acp x] at e
          split at e
          · cases e
          · cases e
            have := l2 x a0 a1 (by omega)
            omega) (by
          rcases l3 with z | ⟨x, ab, ad, e⟩
          · exact Or.inl z
          · exact Or.inr ⟨x, _, ab, (acp x).trans (if_neg (by omega)), by omega⟩)
        unfold CSp
        rwa [hN]
      clear l3
      have v0 := Mn_0 mn (by omega) (fun c hc => (cont_lt hw hac (by omega) hc).1)
      ((conv => whnf); (repeat' (first | (refine ⟨fun _ => ?_, fun _ => ?_⟩ <;> first | (exfalso; omega) | (conv => whnf)) | (refine ⟨by omega, ?_⟩; conv => whnf) | (intro _; conv => whnf))))
      refine t_X4_costOrNotFound (by omega) (by omega) (fun lt => ?_) (fun ge => ?_)
      · ((conv => whnf); (repeat' (first | (refine ⟨fun _ => ?_, fun _ => ?_⟩ <;> first | (exfalso; omega) | (conv => whnf)) | (refine ⟨by omega, ?_⟩; conv => whnf) | (intro _; conv => whnf))))
        exact hyes q1' c v (Mn_L mn lt) ρ cr.1 cr.2
      · ((conv => whnf); (repeat' (first | (refine ⟨fun _ => ?_, fun _ => ?_⟩ <;> first | (exfalso; omega) | (conv => whnf)) | (refine ⟨by omega, ?_⟩; conv => whnf) | (intro _; conv => whnf))))
        exact hno q1' c (Mn_no mn ge) ρ cr.1 cr.2
    · ((conv => whnf); (repeat' (first | (refine ⟨fun _ => ?_, fun _ => ?_⟩ <;> first | (exfalso; omega) | (conv => whnf)) | (refine ⟨by omega, ?_⟩; conv => whnf) | (intro _; conv => whnf))))
      exact htwo q1' c
  · ((conv => whnf); (repeat' (first | (refine ⟨fun _ => ?_, fun _ => ?_⟩ <;> first | (exfalso; omega) | (conv => whnf)) | (refine ⟨by omega, ?_⟩; conv => whnf) | (intro _; conv => whnf))))
    exact hbad (fun e => q (by omega))
end
section
/-! THE CLASS: ways -/
theorem sumN_s (f : Nat → Nat) (n : Nat) : sumN f (n + 1) = sumN f n + f n := rfl
theorem sumN_cg {f g : Nat → Nat} : ∀ (n : Nat), (∀ i, i < n → f i = g i) → sumN f n = sumN g n
  | 0, _ => rfl
  | n + 1, h => by
    unfold sumN
    rw [sumN_cg n (fun i hi => h i (by omega)), h n (by omega)]
theorem sumN_z {f : Nat → Nat} : ∀ (n : Nat), (∀ i, i < n → f i = 0) → sumN f n = 0
  | 0, _ => rfl
  | n + 1, h => by
    unfold sumN
    rw [sumN_z n (fun i hi => h i (by omega)), h n (by omega)]
theorem sumN_up {f : Nat → Nat} {n : Nat} : ∀ (m : Nat), n ≤ m → (∀ i, n ≤ i → f i = 0) → sumN f m = sumN f n
  | 0, h, _ => by rw [show n = 0 by omega]
  | m + 1, h, hz => by
    by_cases c : n = m + 1
    · rw [c]
    · rw [sumN_s, sumN_up m (by omega) hz, hz m (by omega), Nat.add_zero]
def wsum (H N : Int → Nat) (n : Nat) : Nat := sumN (fun b => H b * N b) n
theorem wsum_up {H H' N : Int → Nat} {x : Nat} {b : Int} (h1 : H' b = H b + x) (h2 : ∀ c, c ≠ b → H' c = H c) : ∀ (n : Nat), wsum H' N n = wsum H N n + (if 0 ≤ b ∧ b < n then x * N b else 0)
  | 0 => by
    rw [if_neg (by omega)]
    rfl
  | n + 1 => by
    have ih := wsum_up (N := N) h1 h2 n
    unfold wsum at ih ⊢
    unfold sumN
    rw [ih]
    by_cases c : (n : Int) = b
    · rw [c, h1, Nat.add_mul, if_neg (by omega), if_pos (by omega)]
      omega
    · rw [h2 _ c]
      by_cases c2 : 0 ≤ b ∧ b < n
      · rw [if_pos c2, if_pos (by omega)]
        omega
      · rw [if_neg c2, if_neg (by omega)]
        omega
noncomputable def ttF (T : Int → Int → Prop) (N : Int → Nat) (a : Int) (o g : Nat) : Nat := @ite _ (T o g) (Classical.propDecidable _) (N (a + o + g)) 0
theorem ttF_t {T : Int → Int → Prop} {N : Int → Nat} {a : Int} {o g : Nat} (h : T o g) : ttF T N a o g = N (a + o + g) := if_pos h
theorem ttF_f {T : Int → Int → Prop} {N : Int → Nat} {a : Int} {o g : Nat} (h : ¬ T o g) : ttF T N a o g = 0 := if_neg h
theorem t_X2_handOnWays {d : Nat} (hd : 2 ≤ d) {σ : Sto} {Q : Post} {K : KV} {p a B : Int} (hK : vwC σ 0 = K) (hw : WFK K) (hp : 0 ≤ p ∧ p < K 7 0) (hB : σ 3 0 11 = B) (ho : 0 ≤ B ∧ B ≤ 600) (ha : 0 ≤ a ∧ a ≤ B) (hW : ∀ x, 0 ≤ x → x ≤ B → 0 ≤ σ 8 0 x ∧ σ 8 0 x ≤ 268435456) (hr : 0 ≤ σ 25 p a ∧ σ 25 p a ≤ 268435456) {T : Int → Int → Prop} (hT0 : ∀ o g, T o g ↔ (rngK K p (o, g) ∧ a + o + g ≤ B) ∧ oK K p o + g * K 6 2 + σ 8 0 (a + o + g) = σ 25 p a) {H N : Int → Nat} {F : Nat} (hF : σ 11 0 a = min 1000000 (F : Int)) (hH : ∀ b, 0 ≤ b → b ≤ B → σ 12 0 b = min 1000000 (H b : Int)) (hq : ∀ σ' (H' : Int → Nat), (∀ k' i', k' ≠ 12 → σ' k' i' = σ k' i') → (∀ b, 0 ≤ b → b ≤ B → σ' 12 0 b = min 1000000 (H' b : Int)) → wsum H' N (B + 1).toNat = wsum H N (B + 1).toNat + F * sumN (fun o => sumN (ttF T N a o) 21) 3 → (∀ b, 0 < H' b → 0 < H b ∨ ∃ o g, T o g ∧ b = a + o + g) → Q none σ') : WPd d m_X2_handOnWays [.inr (3, 0), .inl p, .inl a] σ Q := by
  obtain ⟨d, rfl⟩ : ∃ k, d = k + 1 := ⟨d - 1, by omega⟩
  refine wpd_of fun P hT hP => ?_
  subst hK
  have mb := (hw.2.2.1 p hp.1 hp.2).2.2
  have gp := fun g => @gap_b _ hw p g hp
  have ob := oK_b hw p
  rw [vw_n] at hp
  have hn := hw.1
  rw [vw_n] at hn
  obtain ⟨-, v1, v2⟩ := (vw_in (σ := σ) (c := 0)).1 hp.1 hp.2
  have h60 : vwC σ 0 6 0 = σ 23 0 0 := (vw_in (σ := σ) (c := 0)).2.2 (by omega) (by omega)
  have h61 : vwC σ 0 6 1 = σ 23 0 1 := (vw_in (σ := σ) (c := 0)).2.2 (by omega) (by omega)
  have h62 : vwC σ 0 6 2 = σ 23 0 2 := (vw_in (σ := σ) (c := 0)).2.2 (by omega) (by omega)
  obtain ⟨G, eG⟩ : ∃ G, σ 23 0 2 = G := ⟨_, rfl⟩
  obtain ⟨M, eM⟩ : ∃ M, σ 19 0 p = M := ⟨_, rfl⟩
  unfold oK at ob hT0
  rw [v2, eM] at mb
  rw [h62, eG, v2, eM] at gp
  rw [v1, h60, h61] at ob
  unfold rngK at hT0
  rw [v1, h60, h61, v2, eM, h62, eG] at hT0
  have bl := lo_b (σ 18 0 p)
  have bh := hi_b (σ 18 0 p)
  have hTr : ∀ o g, T o g → (lo (σ 18 0 p) ≤ o ∧ o ≤ hi (σ 18 0 p)) ∧ (0 ≤ g ∧ g ≤ M) ∧ a + o + g ≤ B := fun o g t => by
    have := (hT0 o g).1 t
    dsimp only at this
    omega
  have L19 : ∀ (n : Nat) (w : Int) (τ : Sto) (H1 : Int → Nat), n = (hi (σ 18 0 p) + 1 - w).toNat → lo (σ 18 0 p) ≤ w → w ≤ hi (σ 18 0 p) + 1 → (∀ k' i', k' ≠ 12 → τ k' i' = σ k' i') → (∀ b, 0 ≤ b → b ≤ B → τ 12 0 b = min 1000000 (H1 b : Int)) → wsum H1 N (B + 1).toNat = wsum H N (B + 1).toNat + F * sumN (fun o => sumN (ttF T N a o) 21) w.toNat → (∀ b, 0 < H1 b → 0 < H b ∨ ∃ o g, T o g ∧ b = a + o + g) → P 19 [.inr (3, 0), .inl p, .inl a, .inl (σ 25 p a), .inl w] [] τ := by
    intro n
    induction n with
    | zero =>
      intro w τ H1 hn0 w0 w1 fr hH1 ws sp
      have X := hq τ H1 fr hH1 (by
        rw [ws]
        congr 2
        refine (sumN_up 3 (by omega) (fun i hi => sumN_z _ (fun g hg => ttF_f (fun t => ?_)))).symm
        have := hTr _ _ t
        omega) sp
      have e18 : τ 18 0 p = σ 18 0 p := by rw [fr 18 0 (by decide)]
      clear sp
      (refine go (t := tb_X2_handOnWays) (WPd_mono d) hP 90 [19, 70] ?_; (conv => whnf); (repeat' (first | (refine ⟨fun _ => ?_, fun _ => ?_⟩ <;> first | (exfalso; omega) | (conv => whnf)) | (refine ⟨by omega, ?_⟩; conv => whnf) | (intro _; conv => whnf))))
      refine t_X0_mostOwn (by omega) (by omega) ?_
      rw [e18]
      ((conv => whnf); (repeat' (first | (refine ⟨fun _ => ?_, fun _ => ?_⟩ <;> first | (exfalso; omega) | (conv => whnf)) | (refine ⟨by omega, ?_⟩; conv => whnf) | (intro _; conv => whnf))))
      exact X
    | succ n ih =>
      intro w τ0 H0 hn0 w0 w1 fr0 hH0 ws0 sp0
      have L70 : ∀ (k : Nat) (y : Int) (τ : Sto) (H1 : Int → Nat), k = (min M (B - a - w) + 1 - y).toNat → 0 ≤ y → y ≤ max 0 (min M (B - a - w) + 1) → (∀ k' i', k' ≠ 12 → τ k' i' = σ k' i') → (∀ b, 0 ≤ b → b ≤ B → τ 12 0 b = min 1000000 (H1 b : Int)) → wsum H1 N (B + 1).toNat = wsum H N (B + 1).toNat + F * (sumN (fun o => sumN (ttF T N a o) 21) w.toNat + sumN (ttF T N a w.toNat) y.toNat) → (∀ b, 0 < H1 b → 0 < H b ∨ ∃ o g, T o g ∧ b = a + o + g) → P 70 [.inr (3, 0), .inl p, .inl a, .inl (σ 25 p a), .inl w, .inl (oCst (σ 18 0 p) w (σ 23 0 0) (σ 23 0 1)), .inl (min M (B - a - w)), .inl y] [] τ := by
        intro k
        induction k with
        | zero =>
          intro y τ H1 hk y0 y1 fr hH1 ws sp
          have X := ih (w + 1) τ H1 (by clear sp sp0; omega) (by clear sp sp0; omega) (by clear sp sp0; omega) fr hH1 (by
            rw [ws, show (w + 1).toNat = w.toNat + 1 by clear sp sp0; omega]
            congr 2
            show _ = sumN (fun o => sumN (ttF T N a o) 21) w.toNat + sumN (ttF T N a w.toNat) 21
            congr 1
            refine (sumN_up 21 (by clear sp sp0; omega) (fun i hi => ttF_f (fun t => ?_))).symm
            have := hTr _ _ t
            clear sp sp0
            omega) sp
          clear sp sp0
          (refine go (t := tb_X2_handOnWays) (WPd_mono d) hP 90 [19, 70] ?_; (conv => whnf); (repeat' (first | (refine ⟨fun _ => ?_, fun _ => ?_⟩ <;> first | (exfalso; omega) | (conv => whnf)) | (refine ⟨by omega, ?_⟩; conv => whnf) | (intro _; conv => whnf))))
          (refine hT 5 ?_; exact X)
        | succ k jh =>
          intro y τ H1 hk y0 y1 fr hH1 ws sp
          have t := hT0 w y
          have gw := gp y ⟨y0, by clear sp sp0; omega⟩
          have ow := ob w
          have wy := hW (a + w + y) (by clear sp sp0; omega) (by clear sp sp0; omega)
          have e8 : τ 8 0 = σ 8 0 := fr 8 0 (by decide)
          have e23 : τ 23 0 2 = G := by rw [fr 23 0 (by decide)]; exact eG
          have e11 : τ 11 0 a = min 1000000 (F : Int) := by rw [fr 11 0 (by decide)]; exact hF
          have hn1 := hH1 (a + w + y) (by clear sp sp0; omega) (by clear sp sp0; omega)
          have ey : (y + 1).toNat = y.toNat + 1 := by clear sp sp0; omega
          have ew : (w.toNat : Int) = w := by clear sp sp0; omega
          have eyy : (y.toNat : Int) = y := by clear sp sp0; omega
          have o1 : k = (min M (B - a - w) + 1 - (y + 1)).toNat := by clear sp sp0; omega
          have o2 : 0 ≤ y + 1 := by clear sp sp0; omega
          have o3 : y + 1 ≤ max 0 (min M (B - a - w) + 1) := by clear sp sp0; omega
          have X := fun (q : ¬ T w y) => jh (y + 1) τ H1 o1 o2 o3 fr hH1 (by
            rw [ws, ey, sumN_s _ y.toNat, ttF_f (by rw [ew, eyy]; exact q), Nat.add_zero]) sp
          have Y := fun (q : T w y) ρ (e : ρ = upS τ 12 0 (a + w + y) (min 1000000 (τ 12 0 (a + w + y) + τ 11 0 a))) => jh (y + 1) ρ (fun b => if b = a + w + y then H1 b + F else H1 b) o1 o2 o3 (fun k' i' h => by rw [e, up_k h]; exact fr k' i' h) (fun b b0 b1 => by
            rw [e]
            clear sp sp0
            by_cases c : b = a + w + y
            · rw [c, up_hit, if_pos rfl, hn1, e11]
              omega
            · rw [up_j c, if_neg c]
              exact hH1 b b0 b1) (by
            have wu := wsum_up (H := H1) (H' := fun b => if b = a + w + y then H1 b + F else H1 b) (N := N) (x := F) (b := a + w + y) (if_pos rfl) (fun c h => if_neg h) (B + 1).toNat
            rw [wu, ws, if_pos (by clear sp sp0; omega), ey, Nat.add_assoc, ← Nat.mul_add, sumN_s _ y.toNat, ttF_t (by rw [ew, eyy]; exact q), ew, eyy, Nat.add_assoc]) (fun b hb => by
            by_cases c : b = a + w + y
            · exact Or.inr ⟨w, y, q, c⟩
            · rw [if_neg c] at hb
              exact sp b hb)
          clear sp sp0
          have r0 := ha
          dsimp only at t
          (refine go (t := tb_X2_handOnWays) (WPd_mono d) hP 90 [19, 70] ?_; (conv => whnf); (repeat' (first | (refine ⟨fun _ => ?_, fun _ => ?_⟩ <;> first | (exfalso; omega) | (conv => whnf)) | (refine ⟨by omega, ?_⟩; conv => whnf) | (intro _; conv => whnf))))
          refine t_X0_missingCost (by omega) ?_
          rw [e23]
          ((conv => whnf); (repeat' (first | (refine ⟨fun _ => ?_, fun _ => ?_⟩ <;> first | (exfalso; omega) | (conv => whnf)) | (refine ⟨by omega, ?_⟩; conv => whnf) | (intro _; conv => whnf))))
          rw [e8]
          ((conv => whnf); (repeat' (first | (refine ⟨fun _ => ?_, fun _ => ?_⟩ <;> first | (exfalso; omega) | (conv => whnf)) | (refine ⟨by omega, ?_⟩; conv => whnf) | (intro _; conv => whnf))))
          · (refine hT 8 ?_; exact (X (fun q => by have := t.1 q; omega)))
          · (refine hT 8 ?_; exact (Y (t.2 (by omega)) _ rfl))
      have X := L70 _ 0 τ0 H0 rfl (by clear sp0; omega) (by clear sp0; omega) fr0 hH0 (by rw [ws0]; rfl) sp0
      have e18 : τ0 18 0 p = σ 18 0 p := by rw [fr0 18 0 (by decide)]
      have e23 : τ0 23 0 = σ 23 0 := fr0 23 0 (by decide)
      have e19 : τ0 19 0 p = M := by rw [fr0 19 0 (by decide)]; exact eM
      have e3 : τ0 3 0 11 = B := by rw [fr0 3 0 (by decide)]; exact hB
      clear sp0
      (refine go (t := tb_X2_handOnWays) (WPd_mono d) hP 90 [19, 70] ?_; (conv => whnf); (repeat' (first | (refine ⟨fun _ => ?_, fun _ => ?_⟩ <;> first | (exfalso; omega) | (conv => whnf)) | (refine ⟨by omega, ?_⟩; conv => whnf) | (intro _; conv => whnf))))
      refine t_X0_mostOwn (by omega) (by omega) ?_
      rw [e18]
      ((conv => whnf); (repeat' (first | (refine ⟨fun _ => ?_, fun _ => ?_⟩ <;> first | (exfalso; omega) | (conv => whnf)) | (refine ⟨by omega, ?_⟩; conv => whnf) | (intro _; conv => whnf))))
      refine t_X0_ownCost (by omega) (by omega) (by omega) ?_
      rw [e18, e23]
      ((conv => whnf); (repeat' (first | (refine ⟨fun _ => ?_, fun _ => ?_⟩ <;> first | (exfalso; omega) | (conv => whnf)) | (refine ⟨by omega, ?_⟩; conv => whnf) | (intro _; conv => whnf))))
      rw [e19, e3]
      ((conv => whnf); (repeat' (first | (refine ⟨fun _ => ?_, fun _ => ?_⟩ <;> first | (exfalso; omega) | (conv => whnf)) | (refine ⟨by omega, ?_⟩; conv => whnf) | (intro _; conv => whnf))))
      exact X
  (refine go (t := tb_X2_handOnWays) (WPd_mono d) hP 90 [19, 70] ?_; (conv => whnf); (repeat' (first | (refine ⟨fun _ => ?_, fun _ => ?_⟩ <;> first | (exfalso; omega) | (conv => whnf)) | (refine ⟨by omega, ?_⟩; conv => whnf) | (intro _; conv => whnf))))
  refine t_X0_leastOwn (by omega) (by omega) ?_
  ((conv => whnf); (repeat' (first | (refine ⟨fun _ => ?_, fun _ => ?_⟩ <;> first | (exfalso; omega) | (conv => whnf)) | (refine ⟨by omega, ?_⟩; conv => whnf) | (intro _; conv => whnf))))
  refine L19 _ _ σ H rfl (by omega) (by omega) (fun _ _ _ => rfl) hH ?_ (fun b hb => Or.inl hb)
  rw [sumN_z _ (fun i hi => sumN_z _ (fun g hg => ttF_f (fun t => ?_))), Nat.mul_zero, Nat.add_zero]
  have := hTr _ _ t
  omega
end
section
/-! THE CLASS: ways, the whole count -/
theorem RecOk_k {σ σ' : Sto} {K : KV} (h : RecOk σ K) (e : ∀ k i, ¬ (8 ≤ k ∧ k ≤ 12) → σ' k i = σ k i) : RecOk σ' K := RecOk_off h fun k i hk => e k i (by omega)
theorem nW_s (K : KV) (ac : acT) (B : Int) (m : Nat) (p a : Int) : nW K ac B (m + 1) p a = sumN (fun o => sumN (ttF (thr K ac B m p a) (fun x => nW K ac B m (p + 1) x) a o) 21) 3 := rfl
theorem nW_o {K : KV} (hK : WFK K) {ac : acT} : ∀ (m : Nat) (p a : Int), 0 ≤ p → p + m = K 7 0 → rch K p a → nW K ac (old K) m p a = nW K ac 600 m p a
  | 0, _, _, _, _, _ => rfl
  | m + 1, p, a, h0, h1, hr => by
    rw [nW_s, nW_s]
    refine sumN_cg 3 (fun o _ => sumN_cg 21 (fun g _ => ?_))
    by_cases t : thr K ac (old K) m p a o g
    · rw [ttF_t t, ttF_t ((thr_o hK h0 (by omega) hr).1 t)]
      exact nW_o hK m (p + 1) _ (by omega) (by omega) (rch_s hK h0 (by omega) hr (show rngK K p ((o : Int), (g : Int)) from ⟨t.1, t.2.1⟩))
    · rw [ttF_f t, ttF_f (fun t' => t ((thr_o hK h0 (by omega) hr).2 t'))]
theorem wsum_0 {N : Int → Nat} (n : Nat) : wsum (fun _ => 0) N n = 0 := sumN_z n (fun i _ => Nat.zero_mul _)
theorem t_X2_countWays {d : Nat} (hd : 3 ≤ d) {σ : Sto} {Q : Post} {K : KV} (hK : vwC σ 0 = K) (hw : WFK K) (hr : RecOk σ K) (h12 : σ 3 0 12 = 1) (hlt : σ 25 0 0 < 268435456) (hq : ∀ σ', (∀ k i, ¬ (8 ≤ k ∧ k ≤ 12) → σ' k i = σ k i) → Q (some (.inl (min 1000000 (nW K (acK K) (old K) (K 7 0).toNat 0 0 : Int)))) σ') : WPd d m_X2_countWays [.inr (3, 0)] σ Q := by
  obtain ⟨d, rfl⟩ : ∃ k, d = k + 1 := ⟨d - 1, by omega⟩
  refine wpd_of fun P hT hP => ?_
  have hn := hw.1
  have n2 : σ 16 0 7 = K 7 0 := by rw [← hK, vw_n]
  have ob := old_b hw
  have bl := hr.2.2.1 h12
  have t11 := bl.1
  obtain ⟨tot, htot⟩ : ∃ tot, nW K (acK K) (old K) (K 7 0).toNat 0 0 = tot := ⟨_, rfl⟩
  rw [htot] at hq
  have L113 : ∀ (n : Nat) (i s : Int) (τ : Sto) (H : Int → Nat), n = (old K + 1 - i).toNat → 0 ≤ i → i ≤ old K + 1 → (∀ k i, ¬ (8 ≤ k ∧ k ≤ 12) → τ k i = σ k i) → (∀ b, 0 ≤ b → b ≤ old K → τ 11 0 b = min 1000000 (H b : Int)) → wsum H (fun _ => 1) (old K + 1).toNat = tot → s = min 1000000 (wsum H (fun _ => 1) i.toNat : Int) → P 113 [.inr (3, 0), .inl s, .inl i] [] τ := by
    intro n
    induction n with
    | zero =>
      intro i s τ H hn0 i0 i1 fr hH ws hs
      have e3 : τ 3 0 11 = old K := by rw [fr 3 0 (by omega)]; exact t11
      have ei : i = old K + 1 := by omega
      rw [ei, ws] at hs
      have X := hq τ fr
      rw [← hs] at X
      (refine go (t := tb_X2_countWays) (WPd_mono d) hP 90 [18, 55, 113] ?_; (conv => whnf); (repeat' (first | (refine ⟨fun _ => ?_, fun _ => ?_⟩ <;> first | (exfalso; omega) | (conv => whnf)) | (refine ⟨by omega, ?_⟩; conv => whnf) | (intro _; conv => whnf))))
      exact X
    | succ n ih =>
      intro i s τ H hn0 i0 i1 fr hH ws hs
      have e3 : τ 3 0 11 = old K := by rw [fr 3 0 (by omega)]; exact t11
      have e11 := hH i i0 (by omega)
      have X := ih (i + 1) (min 1000000 (s + τ 11 0 i)) τ H (by omega) (by omega) (by omega) fr hH ws (by
        have e : wsum H (fun _ => 1) (i + 1).toNat = wsum H (fun _ => 1) i.toNat + H i := by
          rw [show (i + 1).toNat = i.toNat + 1 by omega]
          unfold wsum
          rw [sumN_s, Nat.mul_one, show (i.toNat : Int) = i by omega]
        rw [e]
        omega)
      (refine go (t := tb_X2_countWays) (WPd_mono d) hP 90 [18, 55, 113] ?_; (conv => whnf); (repeat' (first | (refine ⟨fun _ => ?_, fun _ => ?_⟩ <;> first | (exfalso; omega) | (conv => whnf)) | (refine ⟨by omega, ?_⟩; conv => whnf) | (intro _; conv => whnf))))
      exact X
  have L18 : ∀ (n : Nat) (p : Int) (τ : Sto) (H : Int → Nat), n = (K 7 0 - p).toNat → 0 ≤ p → p ≤ K 7 0 → (∀ k i, ¬ (8 ≤ k ∧ k ≤ 12) → τ k i = σ k i) → (∀ b, 0 ≤ b → b ≤ old K → τ 11 0 b = min 1000000 (H b : Int)) → wsum H (fun b => nW K (acK K) (old K) n p b) (old K + 1).toNat = tot → (∀ b, 0 < H b → 0 ≤ b ∧ b ≤ old K ∧ σ 25 p b < 268435456) → P 18 [.inr (3, 0), .inl p] [] τ := by
    intro n
    induction n with
    | zero =>
      intro p τ H hn0 p0 p1 fr hH ws sp
      have e16 : τ 16 0 7 = K 7 0 := by rw [fr 16 0 (by omega)]; exact n2
      (refine go (t := tb_X2_countWays) (WPd_mono d) hP 90 [18, 55, 113] ?_; (conv => whnf); (repeat' (first | (refine ⟨fun _ => ?_, fun _ => ?_⟩ <;> first | (exfalso; omega) | (conv => whnf)) | (refine ⟨by omega, ?_⟩; conv => whnf) | (intro _; conv => whnf))))
      exact L113 _ 0 0 τ H rfl (by omega) (by omega) fr hH ws rfl
    | succ m ih =>
      intro p τ H hn0 p0 p1 fr hH ws sp
      have e16 : τ 16 0 7 = K 7 0 := by rw [fr 16 0 (by omega)]; exact n2
      have e3 : τ 3 0 11 = old K := by rw [fr 3 0 (by omega)]; exact t11
      have fK : vwC τ 0 = K := by rw [vwC_cg (σ := σ) (fun k h1 h2 => fr k 0 (by omega))]; exact hK
      have f25 : ∀ i, τ 25 i = σ 25 i := fun i => fr 25 i (by omega)
      have hbp : ∀ a, 0 ≤ a → a ≤ old K → Mn (cont K (acK K) (old K) m (p + 1) a) 268435456 (σ 25 (p + 1) a) := fun a a0 a1 => by
        have := bl.2.1 (p + 1) a (by omega) (by omega) a0 a1
        rwa [show (K 7 0 - (p + 1)).toNat = m by omega] at this
      have hbs : ∀ a, 0 ≤ a → a ≤ old K → Mn (cont K (acK K) (old K) (m + 1) p a) 268435456 (σ 25 p a) := fun a a0 a1 => by
        have := bl.2.1 p a p0 (by omega) a0 a1
        rwa [show (K 7 0 - p).toNat = m + 1 by omega] at this
      (refine go (t := tb_X2_countWays) (WPd_mono d) hP 90 [18, 55, 113] ?_; (conv => whnf); (repeat' (first | (refine ⟨fun _ => ?_, fun _ => ?_⟩ <;> first | (exfalso; omega) | (conv => whnf)) | (refine ⟨by omega, ?_⟩; conv => whnf) | (intro _; conv => whnf))))
      refine t_X2_addAshCosts (K := K) (B := old K) (by omega) (Or.inr rfl) fK hw (by omega) e3 ob (fun a h0 h1 => by rw [f25]; exact cont_v hw (by omega) (hbp a h0 h1)) (fun σ1 g1 g2 => ?_)
      ((conv => whnf); (repeat' (first | (refine ⟨fun _ => ?_, fun _ => ?_⟩ <;> first | (exfalso; omega) | (conv => whnf)) | (refine ⟨by omega, ?_⟩; conv => whnf) | (intro _; conv => whnf))))
      have w1 : ∀ x, 0 ≤ x → x ≤ old K → Mn (cAt K (acK K) (old K) m (p + 1) x) 268435456 (σ1 8 0 x) := fun x x0 x1 => by
        rw [g2 x x0 x1, f25]
        exact rowC_at hw (by omega) (hbp x x0 x1)
      have d3 : σ1 3 0 11 = old K := by rw [g1 3 0 (by decide)]; exact e3
      refine t_X2_clearRow (by omega) rfl (by decide) (by omega) (by omega) (fun σ2 j1 j2 => ?_)
      rw [d3] at j2
      ((conv => whnf); (repeat' (first | (refine ⟨fun _ => ?_, fun _ => ?_⟩ <;> first | (exfalso; omega) | (conv => whnf)) | (refine ⟨by omega, ?_⟩; conv => whnf) | (intro _; conv => whnf))))
      have L55 : ∀ (n : Nat) (i : Int) (ρ : Sto) (H' : Int → Nat), n = (old K + 1 - i).toNat → 0 ≤ i → i ≤ old K + 1 → (∀ k i, k ≠ 12 → ρ k i = σ2 k i) → (∀ b, 0 ≤ b → b ≤ old K → ρ 12 0 b = min 1000000 (H' b : Int)) → wsum H' (fun b => nW K (acK K) (old K) m (p + 1) b) (old K + 1).toNat = wsum H (fun b => nW K (acK K) (old K) (m + 1) p b) i.toNat → (∀ b, 0 < H' b → 0 ≤ b ∧ b ≤ old K ∧ σ 25 (p + 1) b < 268435456) → P 55 [.inr (3, 0), .inl p, .inl i] [] ρ := by
        intro n
        induction n with
        | zero =>
          intro i ρ H' hn1 i0 i1 fr2 hH' ws' sp'
          have e3 : ρ 3 0 11 = old K := by rw [fr2 3 0 (by decide), j1 3 0 (by decide)]; exact d3
          have ei : i = old K + 1 := by omega
          rw [ei, ws] at ws'
          (refine go (t := tb_X2_countWays) (WPd_mono d) hP 90 [18, 55, 113] ?_; (conv => whnf); (repeat' (first | (refine ⟨fun _ => ?_, fun _ => ?_⟩ <;> first | (exfalso; omega) | (conv => whnf)) | (refine ⟨by omega, ?_⟩; conv => whnf) | (intro _; conv => whnf))))
          rw [e3]
          refine hT 2 (ih (p + 1) _ H' (by omega) (by omega) (by omega) (fun k i hk => ?_) (fun b b0 b1 => ?_) ws' sp')
          · have c : cpS ρ 12 0 0 11 0 0 (old K + 1) k i = ρ k i := by
              funext x
              exact if_neg (by omega)
            rw [c, fr2 k i (by omega), j1 k i (by omega), g1 k i (by omega), fr k i hk]
          · have c : cpS ρ 12 0 0 11 0 0 (old K + 1) 11 0 b = ρ 12 0 (0 + (b - 0)) := if_pos (by omega)
            rw [c, show 0 + (b - 0) = b by omega]
            exact hH' b b0 b1
        | succ n kh =>
          intro i ρ H' hn1 i0 i1 fr2 hH' ws' sp'
          have e3 : ρ 3 0 11 = old K := by rw [fr2 3 0 (by decide), j1 3 0 (by decide)]; exact d3
          have e11 : ρ 11 0 i = min 1000000 (H i : Int) := by rw [fr2 11 0 (by decide), j1 11 0 (by decide), g1 11 0 (by decide)]; exact hH i i0 (by omega)
          have es : wsum H (fun b => nW K (acK K) (old K) (m + 1) p b) (i + 1).toNat = wsum H (fun b => nW K (acK K) (old K) (m + 1) p b) i.toNat + H i * nW K (acK K) (old K) (m + 1) p i := by
            rw [show (i + 1).toNat = i.toNat + 1 by omega]
            unfold wsum
            rw [sumN_s, show (i.toNat : Int) = i by omega]
          have o1 : n = (old K + 1 - (i + 1)).toNat := by omega
          have o2 : 0 ≤ i + 1 := by omega
          have o3 : i + 1 ≤ old K + 1 := by omega
          have X := fun (z : H i = 0) => kh (i + 1) ρ H' o1 o2 o3 fr2 hH' (by
            have q := es
            rw [z, Nat.zero_mul] at q
            omega) sp'
          (refine go (t := tb_X2_countWays) (WPd_mono d) hP 90 [18, 55, 113] ?_; (conv => whnf); (repeat' (first | (refine ⟨fun _ => ?_, fun _ => ?_⟩ <;> first | (exfalso; omega) | (conv => whnf)) | (refine ⟨by omega, ?_⟩; conv => whnf) | (intro _; conv => whnf))))
          · exact X (by omega)
          · have al := (sp i (by omega)).2.2
            have e25 : ρ 25 p = σ 25 p := by rw [fr2 25 p (by decide), j1 25 p (by omega), g1 25 p (by decide), f25]
            have e8 : ρ 8 0 = σ1 8 0 := by rw [fr2 8 0 (by decide), j1 8 0 (by omega)]
            have fK2 : vwC ρ 0 = K := by rw [vwC_cg (σ := τ) (fun k h1 h2 => by rw [fr2 k 0 (by omega), j1 k 0 (by omega), g1 k 0 (by omega)])]; exact fK
            have hi1 : i ≤ old K := by omega
            refine t_X2_handOnWays (K := K) (B := old K) (T := thr K (acK K) (old K) m p i) (H := H') (N := fun b => nW K (acK K) (old K) m (p + 1) b) (F := H i) (by omega) fK2 hw (by omega) e3 ob ⟨i0, hi1⟩ (fun x x0 x1 => by rw [e8]; exact cAt_v hw (by omega) (w1 x x0 x1)) (by rw [e25]; exact cont_v hw (by omega) (hbs i i0 hi1)) (fun o g => ?_) e11 hH' (fun ρ' H2 k1 k2 k3 k4 => ?_)
            · rw [e25, e8]
              constructor
              · intro t
                have r : rngK K p (o, g) ∧ i + o + g ≤ old K := ⟨⟨t.1, t.2.1⟩, t.2.2.1⟩
                have bl := lo_b (K 1 p)
                have r1 := r.1
                dsimp only [rngK] at r1
                exact ⟨r, (thr_iff hw (acK_g hw) (by decide) (by omega) r.1 r.2 (w1 _ (by omega) r.2) (hbs i i0 hi1) al).1 t⟩
              · rintro ⟨r, e⟩
                have bl := lo_b (K 1 p)
                have r1 := r.1
                dsimp only [rngK] at r1
                exact (thr_iff hw (acK_g hw) (by decide) (by omega) r.1 r.2 (w1 _ (by omega) r.2) (hbs i i0 hi1) al).2 e
            · ((conv => whnf); (repeat' (first | (refine ⟨fun _ => ?_, fun _ => ?_⟩ <;> first | (exfalso; omega) | (conv => whnf)) | (refine ⟨by omega, ?_⟩; conv => whnf) | (intro _; conv => whnf))))
              refine kh (i + 1) ρ' H2 o1 o2 o3 (fun k i hk => by rw [k1 k i hk]; exact fr2 k i hk) k2 (by rw [k3, ws', es, nW_s]) (fun b hb => ?_)
              rcases k4 b hb with z | ⟨o, g, t, e⟩
              · exact sp' b z
              · have bl := lo_b (K 1 p)
                have r1 := t.1
                have r2 := t.2.1
                have r3 := t.2.2.1
                obtain ⟨w, c', hw1, hc1, -⟩ := t.2.2.2
                rw [e]
                refine ⟨by omega, r3, ?_⟩
                have a1 := (hbp _ (by omega) r3).1 c' hc1
                have a2 := cont_lt hw (acK_g hw) (by omega) hc1
                omega
      exact L55 _ 0 σ2 (fun _ => 0) rfl (by omega) (by omega) (fun _ _ _ => rfl) (fun b b0 b1 => by rw [j2 b b0 b1]; rfl) (by rw [wsum_0]; rfl) (fun b hb => by omega)
  (refine go (t := tb_X2_countWays) (WPd_mono d) hP 90 [18, 55, 113] ?_; (conv => whnf); (repeat' (first | (refine ⟨fun _ => ?_, fun _ => ?_⟩ <;> first | (exfalso; omega) | (conv => whnf)) | (refine ⟨by omega, ?_⟩; conv => whnf) | (intro _; conv => whnf))))
  refine t_X2_clearRow (by omega) rfl (by decide) (by omega) (by omega) (fun σ1 g1 g2 => ?_)
  rw [t11] at g2
  ((conv => whnf); (repeat' (first | (refine ⟨fun _ => ?_, fun _ => ?_⟩ <;> first | (exfalso; omega) | (conv => whnf)) | (refine ⟨by omega, ?_⟩; conv => whnf) | (intro _; conv => whnf))))
  refine L18 _ 0 _ (fun b => if b = 0 then 1 else 0) rfl (by omega) (by omega) (fun k i hk => by rw [up_k (by omega)]; exact g1 k i (by omega)) (fun b b0 b1 => ?_) ?_ (fun b hb => ?_)
  · by_cases c : b = 0
    · rw [c, up_hit]
      rfl
    · rw [up_j c, if_neg c]
      exact g2 b b0 b1
  · have wu := wsum_up (H := fun _ => 0) (H' := fun b => if b = 0 then 1 else 0) (N := fun b => nW K (acK K) (old K) (K 7 0 - 0).toNat 0 b) (x := 1) (b := 0) rfl (fun c h => if_neg h) (old K + 1).toNat
    rw [wu, wsum_0, if_pos (by omega), Nat.one_mul, Nat.zero_add, Int.sub_zero]
    exact htot
  · by_cases c : b = 0
    · rw [c]
      exact ⟨by omega, by omega, hlt⟩
    · rw [if_neg c] at hb
      omega
theorem t_X2_numberOfWays {d : Nat} (hd : 4 ≤ d) {σ : Sto} {Q : Post} {K : KV} (hK : vwC σ 0 = K) (hw : WFK K) (hr : RecOk σ K) (h12 : σ 3 0 12 = 1) (hlt : σ 25 0 0 < 268435456) (hq : ∀ σ', offR σ σ' → RecOk σ' K → Q (some (.inl (min 1000000 (nW K (acK K) (old K) (K 7 0).toNat 0 0 : Int)))) σ') : WPd d m_X2_numberOfWays [.inr (3, 0)] σ Q := by
  obtain ⟨d, rfl⟩ : ∃ k, d = k + 1 := ⟨d - 1, by omega⟩
  intro P hP
  have r5 := hr.2.2.2.2
  by_cases c : σ 3 0 14 = -1
  · (refine go (t := tb_X2_numberOfWays) (WPd_mono d) hP 60 [] ?_; (conv => whnf); (repeat' (first | (refine ⟨fun _ => ?_, fun _ => ?_⟩ <;> first | (exfalso; omega) | (conv => whnf)) | (refine ⟨by omega, ?_⟩; conv => whnf) | (intro _; conv => whnf))))
    refine t_X2_countWays (by omega) hK hw hr h12 hlt (fun ρ fr => ?_)
    have rk := RecOk_k hr fr
    have e12 : ρ 3 0 12 = 1 := by rw [fr 3 0 (by omega)]; exact h12
    have e25 : ρ 25 0 0 < 268435456 := by rw [fr 25 0 (by omega)]; exact hlt
    ((conv => whnf); (repeat' (first | (refine ⟨fun _ => ?_, fun _ => ?_⟩ <;> first | (exfalso; omega) | (conv => whnf)) | (refine ⟨by omega, ?_⟩; conv => whnf) | (intro _; conv => whnf))))
    have X := hq (upS ρ 3 0 14 (min 1000000 (nW K (acK K) (old K) (K 7 0).toNat 0 0 : Int))) (fun k i a1 a2 a3 a4 => by rw [up_k a1]; exact fr k i (by omega)) (by
      obtain ⟨k1, k2, k3, k4, k5⟩ := rk
      refine ⟨by rw [up_j (by decide)]; exact k1, by rw [up_j (by decide)]; exact k2, fun q => BelOk_cg (k3 e12) (up_j (by decide)) (fun k i hk => up_k (by omega)), fun q => ?_, Or.inr ⟨by rw [up_j (by decide)]; exact e12, by rw [up_k (by decide)]; exact e25, up_hit⟩⟩
      rw [up_j (by decide)] at q
      refine ⟨by rw [up_j (by decide)]; exact e12, ?_⟩
      have := (k4 q).2
      unfold AbvOk at this ⊢
      simp only [show ∀ i, upS ρ 3 0 14 (min 1000000 (nW K (acK K) (old K) (K 7 0).toNat 0 0 : Int)) 24 i = ρ 24 i from fun i => up_k (by decide)]
      exact this)
    rw [up_hit]
    ((conv => whnf); (repeat' (first | (refine ⟨fun _ => ?_, fun _ => ?_⟩ <;> first | (exfalso; omega) | (conv => whnf)) | (refine ⟨by omega, ?_⟩; conv => whnf) | (intro _; conv => whnf))))
    exact X
  · have e : σ 3 0 14 = min 1000000 (nW K (acK K) (old K) (K 7 0).toNat 0 0 : Int) := by
      rcases r5 with z | z
      · exact absurd z c
      · exact z.2.2
    have X := hq σ (offR.rf σ) hr
    rw [← e] at X
    (refine go (t := tb_X2_numberOfWays) (WPd_mono d) hP 60 [] ?_; (conv => whnf); (repeat' (first | (refine ⟨fun _ => ?_, fun _ => ?_⟩ <;> first | (exfalso; omega) | (conv => whnf)) | (refine ⟨by omega, ?_⟩; conv => whnf) | (intro _; conv => whnf))))
    exact X
theorem t_X4_ways {d : Nat} (hd : 6 ≤ d) {σ : Sto} {Q : Post} {K : KV} {h : Int} {HK : Int → KV} {tl : Int} {tx : Int → Int} (hC : ClassR σ K h HK tl tx) (hno : (∀ c, ¬ CS K c) → ∀ σ', ClassR σ' K h HK tl tx → frC σ σ' → Q (some (.inl 0)) σ') (hyes : (∃ c, CS K c) → ∀ σ', ClassR σ' K h HK tl tx → frC σ σ' → Q (some (.inl (min 1000000 (nW K (acK K) 600 (K 7 0).toNat 0 0 : Int)))) σ') : WPd d m_X4_ways [.inr (0, 0)] σ Q := by
  obtain ⟨d, rfl⟩ : ∃ k, d = k + 1 := ⟨d - 1, by omega⟩
  intro P hP
  have hn := hC.2.1.1
  (refine go (t := tb_X4_ways) (WPd_mono d) hP 60 [] ?_; (conv => whnf); (repeat' (first | (refine ⟨fun _ => ?_, fun _ => ?_⟩ <;> first | (exfalso; omega) | (conv => whnf)) | (refine ⟨by omega, ?_⟩; conv => whnf) | (intro _; conv => whnf))))
  refine t_X2_hasCount (by omega) hC.1 hC.2.1 hC.2.2.2.2 (fun ρ fo ro t12 lt b0 => ?_) (fun ρ fo ro no => ?_)
  · ((conv => whnf); (repeat' (first | (refine ⟨fun _ => ?_, fun _ => ?_⟩ <;> first | (exfalso; omega) | (conv => whnf)) | (refine ⟨by omega, ?_⟩; conv => whnf) | (intro _; conv => whnf))))
    refine t_X2_numberOfWays (by omega) (by rw [fo.core]; exact hC.1) hC.2.1 ro t12 lt (fun τ fo2 ro2 => ?_)
    have cr := ClassR_R hC (fo.tr fo2) ro2
    rw [nW_o hC.2.1 _ 0 0 (by omega) (by omega) (rch_0 K)]
    ((conv => whnf); (repeat' (first | (refine ⟨fun _ => ?_, fun _ => ?_⟩ <;> first | (exfalso; omega) | (conv => whnf)) | (refine ⟨by omega, ?_⟩; conv => whnf) | (intro _; conv => whnf))))
    exact hyes ⟨_, (Mn_L b0 lt).1⟩ τ cr.1 cr.2
  · have cr := ClassR_R hC fo ro
    ((conv => whnf); (repeat' (first | (refine ⟨fun _ => ?_, fun _ => ?_⟩ <;> first | (exfalso; omega) | (conv => whnf)) | (refine ⟨by omega, ?_⟩; conv => whnf) | (intro _; conv => whnf))))
    exact hno no ρ cr.1 cr.2
end
section
/-! THE PROPERTY: what the best count is; its cost as a sum -/
theorem sumF_s (f : Int → Int) (n : Nat) (i : Int) : sumF f (n + 1) i = f i + sumF f n (i + 1) := rfl
theorem sumF_sn (f : Int → Int) : ∀ (n : Nat) (i : Int), sumF f (n + 1) i = sumF f n i + f (i + n)
  | 0, i => by
    have e : sumF f (0 + 1) i = f i + 0 := rfl
    have e2 : sumF f 0 i = 0 := rfl
    rw [e, e2, show i + ((0 : Nat) : Int) = i by omega]
    omega
  | n + 1, i => by
    rw [sumF_s, sumF_sn f n (i + 1), sumF_s f n i, show i + 1 + (n : Int) = i + ((n + 1 : Nat) : Int) by omega]
    omega
theorem sumF_add (f g : Int → Int) : ∀ (n : Nat) (i : Int), sumF (fun q => f q + g q) n i = sumF f n i + sumF g n i
  | 0, _ => rfl
  | n + 1, i => by
    rw [sumF_s, sumF_s, sumF_s, sumF_add f g n (i + 1)]
    omega
theorem sumF_mul (f : Int → Int) (k : Int) : ∀ (n : Nat) (i : Int), sumF (fun q => f q * k) n i = sumF f n i * k
  | 0, _ => (Int.zero_mul k).symm
  | n + 1, i => by
    rw [sumF_s, sumF_s, sumF_mul f k n (i + 1), Int.add_mul]
theorem sumF_z : ∀ (n : Nat) (i : Int), sumF (fun _ => 0) n i = 0
  | 0, _ => rfl
  | n + 1, i => by
    rw [sumF_s, sumF_z n (i + 1)]
    rfl
theorem sumF_at (x t : Int) : ∀ (n : Nat) (i : Int), sumF (fun q => if q = x then t else 0) n i = if i ≤ x ∧ x < i + n then t else 0
  | 0, i => by
    rw [if_neg (by omega)]
    rfl
  | n + 1, i => by
    rw [sumF_s, sumF_at x t n (i + 1)]
    by_cases c : i = x
    · rw [if_pos c, if_neg (by omega), if_pos (by omega)]
      omega
    · rw [if_neg c]
      by_cases c2 : i + 1 ≤ x ∧ x < i + 1 + n
      · rw [if_pos c2, if_pos (by omega)]
        omega
      · rw [if_neg c2, if_neg (by omega)]
        omega
theorem oK_e {K : KV} {p o : Int} (h1 : lo (K 1 p) ≤ o) (h2 : o ≤ hi (K 1 p)) : oK K p o = (if o = 0 then 1 else 0) * K 6 0 + (if o = 2 then 1 else 0) * K 6 1 := by
  show oCst (K 1 p) o (K 6 0) (K 6 1) = _
  unfold oCst
  unfold lo at h1
  unfold hi at h2
  by_cases c0 : o = 0
  · have k1 : K 1 p = 1 := by
      split at h1
      · assumption
      · omega
    rw [if_pos ⟨k1, c0⟩, if_pos c0, if_neg (by omega), Int.one_mul, Int.zero_mul, Int.add_zero]
  · rw [if_neg (fun e => c0 e.2), if_neg c0]
    by_cases c2 : o = 2
    · have k2 : K 1 p = 2 := by
        split at h2
        · assumption
        · omega
      rw [if_pos ⟨k2, c2⟩, if_pos c2, Int.one_mul, Int.zero_mul, Int.zero_add]
    · rw [if_neg (fun e => c2 e.2), if_neg c2, Int.zero_mul, Int.zero_mul, Int.zero_add]
theorem own_sum {K : KV} {O : Int → Int} : ∀ (m : Nat) (p : Int), (∀ q, p ≤ q → q < p + m → lo (K 1 q) ≤ O q ∧ O q ≤ hi (K 1 q)) → sumF (fun q => oK K q (O q)) m p = cntF O 0 m p * K 6 0 + cntF O 2 m p * K 6 1
  | 0, _, _ => by
    show (0 : Int) = 0 * K 6 0 + 0 * K 6 1
    rw [Int.zero_mul, Int.zero_mul, Int.zero_add]
  | m + 1, p, h => by
    have r := h p (by omega) (by omega)
    have e := oK_e r.1 r.2
    have ih := own_sum m (p + 1) (fun q h1 h2 => h q (by omega) (by omega))
    have c0 : cntF O 0 (m + 1) p = (if O p = 0 then 1 else 0) + cntF O 0 m (p + 1) := rfl
    have c2 : cntF O 2 (m + 1) p = (if O p = 2 then 1 else 0) + cntF O 2 m (p + 1) := rfl
    rw [sumF_s, ih, e, c0, c2, Int.add_mul, Int.add_mul]
    omega
theorem ash_sum {K : KV} (hK : WFK K) (t : Int → Int) : ∀ (j : Nat) (i : Int), 0 ≤ i → i + j ≤ K 7 1 → sumF (fun q => sumF (fun x => if K 3 x = q + 1 then t x else 0) j i) (K 7 0).toNat 0 = sumF t j i
  | 0, i, _, _ => sumF_z _ _
  | j + 1, i, h0, h1 => by
    have ih := ash_sum hK t j (i + 1) (by omega) (by omega)
    have r := (hK.2.2.2.1 i h0 (by omega)).1
    have e : (fun q => sumF (fun x => if K 3 x = q + 1 then t x else 0) (j + 1) i) = fun q => (if q = K 3 i - 1 then t i else 0) + sumF (fun x => if K 3 x = q + 1 then t x else 0) j (i + 1) := by
      funext q
      rw [sumF_s]
      congr 1
      by_cases c : K 3 i = q + 1
      · rw [if_pos c, if_pos (by omega)]
      · rw [if_neg c, if_neg (by omega)]
    rw [e, sumF_add, ih, sumF_at, if_pos (by omega)]
    rfl
theorem ash_pt {K : KV} (hK : WFK K) {A : Int → Int} {q w : Int} (h : acK K (q + 1) (A (q + 1)) = some w) : w = sumF (fun x => if K 3 x = q + 1 then dif (A (K 3 x)) (K 4 x) * K 6 3 else 0) (K 7 1).toNat 0 := by
  unfold acK at h
  rcases axK_of K (q + 1) hK.2.1.1 with ⟨a, b⟩ | ⟨a, b, c⟩
  · rw [if_pos a] at h
    cases h
    rw [sumF_cg (g := fun _ => 0) _ _ (fun j j0 j1 => if_neg (b j j0 (by omega))), sumF_z]
  · rw [if_neg (by omega)] at h
    split at h
    · cases h
    · cases h
      rw [sumF_cg (g := fun x => if x = axK K (q + 1) then dif (A (q + 1)) (K 4 (axK K (q + 1))) * K 6 3 else 0) _ _ (fun j j0 j1 => ?_), sumF_at, if_pos (by omega)]
      by_cases z : K 3 j = q + 1
      · have e := axK_at hK (x := j) j0 (by omega)
        rw [z] at e
        rw [if_pos z, if_pos e.symm, z, e]
      · rw [if_neg z, if_neg (fun e => z (by rw [e]; exact c))]
def stF (K : KV) (w O G : Int → Int) (q : Int) : Int := oK K q (O q) + G q * K 6 2 + w (q + 1)
/-- years that keep the rules, with what the ashes cost -/
def Pth (K : KV) (ac : acT) (w A O G : Int → Int) : Prop := A 0 = 0 ∧ ∀ p, 0 ≤ p → p < K 7 0 → (lo (K 1 p) ≤ O p ∧ O p ≤ hi (K 1 p)) ∧ (0 ≤ G p ∧ G p ≤ K 2 p) ∧ A (p + 1) = A p + O p + G p ∧ A (p + 1) ≤ 600 ∧ ac (p + 1) (A (p + 1)) = some (w (p + 1))
theorem pth_c {K : KV} {ac : acT} {w A O G : Int → Int} (h : Pth K ac w A O G) : ∀ (m : Nat) (p : Int), 0 ≤ p → p + m = K 7 0 → cont K ac 600 m p (A p) (sumF (stF K w O G) m p)
  | 0, _, _, _ => rfl
  | m + 1, p, h0, h1 => by
    obtain ⟨ho, hg, e, hb, hw⟩ := h.2 p h0 (by omega)
    have ih := pth_c h m (p + 1) (by omega) (by omega)
    refine ⟨O p, G p, w (p + 1), _, ho, hg, by omega, by rw [← e]; exact hw, by rw [← e]; exact ih, rfl⟩
def wvF (ac : acT) (A : Int → Int) (q : Int) : Int := (ac q (A q)).getD 0
theorem Bst_P {K : KV} {ac : acT} {A O G : Int → Int} (h : Bst K ac 600 A O G) : Pth K ac (wvF ac A) A O G := by
  refine ⟨h.1, fun p p0 p1 => ?_⟩
  obtain ⟨⟨⟨ho, hg, hb, w, c', hw, hc, hl⟩, -⟩, e⟩ := h.2 p p0 p1
  refine ⟨ho, hg, e, by omega, ?_⟩
  unfold wvF
  rw [e, hw]
  rfl
theorem Bst_L {K : KV} {ac : acT} {A O G : Int → Int} (h : Bst K ac 600 A O G) : ∀ (m : Nat) (p : Int), 0 ≤ p → p + m = K 7 0 → isL (cont K ac 600 m p (A p)) (sumF (stF K (wvF ac A) O G) m p)
  | 0, p, _, _ => ⟨rfl, fun c hc => by
    have hc : c = 0 := hc
    have e : sumF (stF K (wvF ac A) O G) 0 p = 0 := rfl
    omega⟩
  | m + 1, p, h0, h1 => by
    refine ⟨pth_c (Bst_P h) (m + 1) p h0 h1, fun c hc => ?_⟩
    have ih := Bst_L h m (p + 1) (by omega) (by omega)
    obtain ⟨⟨⟨ho, hg, hb, w, c', hw, hc', hl⟩, -⟩, e⟩ := h.2 p h0 (by omega)
    rw [show (K 7 0 - p - 1).toNat = m by omega] at hc' hl
    have l1 := hl c hc
    rw [← e] at hw hc'
    have l2 := ih.2 c' hc'
    have ew : wvF ac A (p + 1) = w := by
      unfold wvF
      rw [hw]
      rfl
    have es : stF K (wvF ac A) O G p = oK K p (O p) + G p * K 6 2 + wvF ac A (p + 1) := rfl
    rw [sumF_s, es, ew]
    omega
/-- the best count and its cost -/
def Yes (K : KV) (c0 : Int) (A O G : Int → Int) : Prop := isL (CS K) c0 ∧ Bst K (acK K) 600 A O G
theorem yes_sum {K : KV} (hK : WFK K) {c0 : Int} {A O G : Int → Int} (h : Yes K c0 A O G) : sumF (stF K (wvF (acK K) A) O G) (K 7 0).toNat 0 = c0 := by
  have n := hK.1
  have a := Bst_L h.2 (K 7 0).toNat 0 (by omega) (by omega)
  rw [h.2.1] at a
  exact isL_u a h.1
theorem yes_tot {K : KV} (hK : WFK K) {c0 : Int} {A O G : Int → Int} (h : Yes K c0 A O G) : cntF O 0 (K 7 0).toNat 0 * K 6 0 + cntF O 2 (K 7 0).toNat 0 * K 6 1 + sumF G (K 7 0).toNat 0 * K 6 2 + sumF (fun i => dif (A (K 3 i)) (K 4 i)) (K 7 1).toNat 0 * K 6 3 = c0 := by
  have n := hK.1
  have n2 := hK.2.1
  have P := Bst_P h.2
  rw [← yes_sum hK h]
  have e : sumF (stF K (wvF (acK K) A) O G) (K 7 0).toNat 0 = sumF (fun q => (oK K q (O q) + G q * K 6 2) + sumF (fun x => if K 3 x = q + 1 then dif (A (K 3 x)) (K 4 x) * K 6 3 else 0) (K 7 1).toNat 0) (K 7 0).toNat 0 := by
    refine sumF_cg _ _ (fun j j0 j1 => ?_)
    have r := (P.2 j j0 (by omega)).2.2.2.2
    rw [← ash_pt hK r]
    rfl
  rw [e, sumF_add, sumF_add, sumF_mul, own_sum _ _ (fun q h1 h2 => (P.2 q h1 (by omega)).1), ash_sum hK _ _ _ (by omega) (by omega), sumF_mul]
theorem yes_ash {K : KV} (hK : WFK K) {c0 : Int} {A O G : Int → Int} (h : Yes K c0 A O G) {x : Int} (h0 : 0 ≤ x) (h1 : x < K 7 1) : (0 ≤ A (K 3 x) ∧ A (K 3 x) ≤ 600) ∧ dif (A (K 3 x)) (K 4 x) ≤ K 5 x := by
  have r := (hK.2.2.2.1 x h0 h1).1
  refine ⟨(Bst_b hK h.2 (by omega)).1 (by omega), ?_⟩
  have P := (Bst_P h.2).2 (K 3 x - 1) (by omega) (by omega)
  have e := P.2.2.2.2
  rw [show K 3 x - 1 + 1 = K 3 x by omega] at e
  unfold acK at e
  rw [axK_at hK h0 h1, if_neg (by omega)] at e
  split at e
  · cases e
  · omega
theorem least_ex {S : Int → Prop} (h0 : ∀ c, S c → 0 ≤ c) : ∀ (n : Nat) (c : Int), c.toNat = n → S c → ∃ v, isL S v := by
  intro n
  induction n using Nat.strongRecOn with
  | _ n ih =>
    intro c hc hs
    by_cases q : ∃ c', S c' ∧ c' < c
    · obtain ⟨c', h1, h2⟩ := q
      have := h0 c' h1
      exact ih c'.toNat (by omega) c' rfl h1
    · refine ⟨c, hs, fun c' h' => ?_⟩
      by_cases z : c' < c
      · exact absurd ⟨c', h', z⟩ q
      · omega
theorem sumN_ge {f : Nat → Nat} {i : Nat} : ∀ (n : Nat), i < n → f i ≤ sumN f n
  | 0, h => absurd h (Nat.not_lt_zero _)
  | n + 1, h => by
    rw [sumN_s]
    by_cases c : i = n
    · rw [c]
      omega
    · have := sumN_ge (f := f) n (show i < n by omega)
      omega
theorem nW_1 {K : KV} (hK : WFK K) {ac : acT} (hac : acB ac 60000) {B : Int} : ∀ (m : Nat) (p a c : Int), 0 ≤ p → p + m ≤ K 7 0 → cont K ac B m p a c → 1 ≤ nW K ac B m p a
  | 0, _, _, _, _, _, _ => Nat.le_refl 1
  | m + 1, p, a, c, h0, h1, h => by
    obtain ⟨v, hv⟩ := least_ex (fun c hc => (cont_lt hK hac ⟨h0, h1⟩ hc).1) _ c rfl h
    obtain ⟨o, g, w, c', ho, hg, hb, hw, hc, e⟩ := hv.1
    have T : thr K ac B m p a o g := ⟨ho, hg, hb, w, c', hw, hc, fun c hc' => by have := hv.2 c hc'; omega⟩
    have ih := nW_1 hK hac m (p + 1) (a + o + g) c' (by omega) (by omega) hc
    have bl := lo_b (K 1 p)
    have bh := hi_b (K 1 p)
    have mb := (hK.2.2.1 p h0 (by omega)).2.2
    obtain ⟨o', rfl⟩ := Int.eq_ofNat_of_zero_le (show 0 ≤ o by omega)
    obtain ⟨g', rfl⟩ := Int.eq_ofNat_of_zero_le hg.1
    rw [nW_s]
    have s1 := sumN_ge (f := ttF (thr K ac B m p a) (fun x => nW K ac B m (p + 1) x) a o') (i := g') 21 (by omega)
    have s2 := sumN_ge (f := fun o => sumN (ttF (thr K ac B m p a) (fun x => nW K ac B m (p + 1) x) a o) 21) (i := o') 3 (by omega)
    rw [ttF_t T] at s1
    (try dsimp only at s1)
    (try dsimp only at s2)
    omega
theorem CS_b {K : KV} (hK : WFK K) {c : Int} (h : CS K c) : 0 ≤ c ∧ c < 4000000 := cont_lt hK (acK_g hK) (by have := hK.1; omega) h
theorem yes_nW {K : KV} (hK : WFK K) (h : ∃ c, CS K c) : 1 ≤ nW K (acK K) 600 (K 7 0).toNat 0 0 := by
  obtain ⟨c, hc⟩ := h
  exact nW_1 hK (acK_g hK) _ 0 0 c (by omega) (by have := hK.1; omega) hc
end
section
/-! THE PROPERTY: what other cores cost -/
theorem cont_mono {K K' : KV} {ac ac' : acT} {B : Int} (hk : K' 1 = K 1) (hs : K' 6 = K 6) (hm : ∀ p, K 2 p ≤ K' 2 p) : ∀ (m : Nat) (p a c : Int), (∀ q x w, p < q → q ≤ p + m → ac q x = some w → ∃ w', ac' q x = some w' ∧ w' ≤ w) → cont K ac B m p a c → ∃ c', cont K' ac' B m p a c' ∧ c' ≤ c
  | 0, _, _, c, _, h => ⟨c, h, Int.le_refl _⟩
  | m + 1, p, a, c, hc, h => by
    obtain ⟨o, g, w, c', ho, hg, hb, hw, hc', e⟩ := h
    obtain ⟨c2, i1, i2⟩ := cont_mono hk hs hm m (p + 1) _ c' (fun q x w q0 q1 => hc q x w (by omega) (by omega)) hc'
    obtain ⟨w', e1, e2⟩ := hc _ _ _ (by omega) (by omega) hw
    have hm := hm p
    refine ⟨oK K' p o + g * K' 6 2 + w' + c2, ⟨o, g, w', c2, by rw [hk]; exact ho, by omega, hb, e1, i1, rfl⟩, ?_⟩
    show oCst (K' 1 p) o (K' 6 0) (K' 6 1) + g * K' 6 2 + w' + c2 ≤ c
    rw [hk, hs]
    have e : c = oCst (K 1 p) o (K 6 0) (K 6 1) + g * K 6 2 + w + c' := e
    omega
theorem cont_same {K K' : KV} {ac : acT} {B : Int} (hk : K' 1 = K 1) (hs : K' 6 = K 6) (hm : K' 2 = K 2) : ∀ (m : Nat) (p a c : Int), cont K' ac B m p a c ↔ cont K ac B m p a c
  | 0, _, _, _ => Iff.rfl
  | m + 1, p, a, c => by
    have eo : ∀ o, oK K' p o = oK K p o := fun o => by
      show oCst (K' 1 p) o (K' 6 0) (K' 6 1) = oCst (K 1 p) o (K 6 0) (K 6 1)
      rw [hk, hs]
    constructor
    · rintro ⟨o, g, w, c', ho, hg, hb, hw, hc, e⟩
      rw [hk] at ho
      rw [hm] at hg
      rw [eo, hs] at e
      exact ⟨o, g, w, c', ho, hg, hb, hw, (cont_same hk hs hm m (p + 1) _ c').1 hc, e⟩
    · rintro ⟨o, g, w, c', ho, hg, hb, hw, hc, e⟩
      rw [← eo, ← hs] at e
      exact ⟨o, g, w, c', by rw [hk]; exact ho, by rw [hm]; exact hg, hb, hw, (cont_same hk hs hm m (p + 1) _ c').2 hc, e⟩
/-- what cost() answers -/
def cst (K : KV) (v : Int) : Prop := (v = -4 ∧ ∀ c, ¬ CS K c) ∨ isL (CS K) v
theorem cst_u {K : KV} {v w : Int} (h : cst K v) (h' : cst K w) : v = w := by
  rcases h with ⟨a, b⟩ | a <;> rcases h' with ⟨a', b'⟩ | a'
  · omega
  · exact absurd a'.1 (b w)
  · exact absurd a.1 (b' v)
  · exact isL_u a a'
theorem cst_b {K : KV} (hK : WFK K) {v : Int} (h : cst K v) : -4 ≤ v ∧ v < 4000000 := by
  rcases h with ⟨a, b⟩ | a
  · omega
  · have := CS_b hK a.1
    omega
theorem cst_0 {K : KV} (hK : WFK K) {v : Int} (h : cst K v) : (0 ≤ v → isL (CS K) v) ∧ (v < 0 → v = -4 ∧ ∀ c, ¬ CS K c) := by
  refine ⟨fun q => ?_, fun q => ?_⟩
  · rcases h with ⟨a, b⟩ | a
    · omega
    · exact a
  · rcases h with a | a
    · exact a
    · have := CS_b hK a.1
      omega
/-- where a core's counts are no dearer ones of another -/
theorem cst_le {K K' : KV} (hK' : WFK K') {v v' : Int} (h : isL (CS K) v) (hm : ∀ c, CS K c → ∃ c', CS K' c' ∧ c' ≤ c) (h' : cst K' v') : 0 ≤ v' ∧ v' ≤ v := by
  obtain ⟨c', h1, h2⟩ := hm v h.1
  rcases h' with ⟨a, b⟩ | a
  · exact absurd h1 (b c')
  · have := a.2 c' h1
    have := CS_b hK' a.1
    omega
theorem ac_del {K : KV} (hK : WFK K) {x : Int} (h0 : 0 ≤ x) (h1 : x < K 7 1) : acK (delAK K x) = acB0 K x 0 := by
  have hK' := WFK_delA hK ⟨h0, h1⟩
  have n' : delAK K x 7 1 = K 7 1 - 1 := rfl
  have d3 : ∀ j, delAK K x 3 j = if j < x then K 3 j else K 3 (j + 1) := fun j => rfl
  have d4 : ∀ j, delAK K x 4 j = if j < x then K 4 j else K 4 (j + 1) := fun j => rfl
  have d5 : ∀ j, delAK K x 5 j = if j < x then K 5 j else K 5 (j + 1) := fun j => rfl
  funext q b
  rcases axK_of (delAK K x) q hK'.2.1.1 with ⟨a, no⟩ | ⟨a0, a1, a2⟩
  · have z : axK K q = -1 ∨ axK K q = x := by
      rcases axK_of K q hK.2.1.1 with ⟨a', _⟩ | ⟨b0, b1, b2⟩
      · exact Or.inl a'
      · refine Or.inr ?_
        by_cases c : axK K q < x
        · have := no (axK K q) b0 (by omega)
          rw [d3, if_pos c] at this
          exact absurd b2 this
        · by_cases c2 : x < axK K q
          · have := no (axK K q - 1) (by omega) (by omega)
            rw [d3, if_neg (by omega), show axK K q - 1 + 1 = axK K q by omega] at this
            exact absurd b2 this
          · omega
    unfold acK acB0
    rw [if_pos a, if_pos z]
  · obtain ⟨y, hy⟩ : ∃ y, y = if axK (delAK K x) q < x then axK (delAK K x) q else axK (delAK K x) q + 1 := ⟨_, rfl⟩
    have yb : 0 ≤ y ∧ y < K 7 1 ∧ y ≠ x := by
      rw [hy]
      split <;> omega
    have e3 : K 3 y = q := by
      rw [d3] at a2
      rw [hy]
      split at a2
      · rename_i c
        rw [if_pos c]
        exact a2
      · rename_i c
        rw [if_neg c]
        exact a2
    have ey : axK K q = y := by
      rw [← e3]
      exact axK_at hK yb.1 yb.2.1
    have e4 : delAK K x 4 (axK (delAK K x) q) = K 4 y := by
      rw [d4, hy]
      split <;> rfl
    have e5 : delAK K x 5 (axK (delAK K x) q) = K 5 y := by
      rw [d5, hy]
      split <;> rfl
    have e6 : delAK K x 6 3 = K 6 3 := rfl
    unfold acK acB0
    rw [if_neg (by omega), e4, e5, e6, ey, if_neg (show ¬ (y = -1 ∨ y = x) by omega), Int.add_zero]
theorem CS_del {K : KV} (hK : WFK K) {x : Int} (h0 : 0 ≤ x) (h1 : x < K 7 1) (c : Int) : CS (delAK K x) c ↔ CSw K x c := by
  unfold CS CSw
  rw [ac_del hK h0 h1]
  exact cont_same (K := K) (K' := delAK K x) rfl rfl rfl _ 0 0 c
theorem CS_del_le {K : KV} (hK : WFK K) {x : Int} (h0 : 0 ≤ x) (h1 : x < K 7 1) {c : Int} (h : CS K c) : ∃ c', CS (delAK K x) c' ∧ c' ≤ c := by
  have hb := acK_b hK
  refine cont_mono (K := K) (K' := delAK K x) rfl rfl (fun p => Int.le_refl _) _ 0 0 c (fun q a w _ _ hw => ?_) h
  rw [ac_del hK h0 h1]
  have b := hb q a w hw
  unfold acK at hw
  unfold acB0
  by_cases z : axK K q = -1 ∨ axK K q = x
  · rw [if_pos z]
    exact ⟨0, rfl, b.1⟩
  · rw [if_neg (fun e => z (Or.inl e))] at hw
    rw [if_neg z, Int.add_zero]
    exact ⟨w, hw, Int.le_refl _⟩
theorem cst_del {K : KV} (hK : WFK K) {x : Int} (h0 : 0 ≤ x) (h1 : x < K 7 1) {v : Int} : ((v = -4 ∧ ∀ c, ¬ CSw K x c) ∨ isL (CSw K x) v) → cst (delAK K x) v := by
  rintro (⟨a, b⟩ | ⟨a, b⟩)
  · exact Or.inl ⟨a, fun c hc => b c ((CS_del hK h0 h1 c).1 hc)⟩
  · exact Or.inr ⟨(CS_del hK h0 h1 v).2 a, fun c hc => b c ((CS_del hK h0 h1 c).1 hc)⟩
/-- one more ash -/
theorem ac_ins {K : KV} (hK : WFK K) {p a u : Int} (hn : K 7 1 < 6) (hp : 1 ≤ p ∧ p ≤ K 7 0) (ha : 0 ≤ a ∧ a ≤ 500) (hu : 0 ≤ u ∧ u ≤ 9) (hx : axK K p = -1) : (∀ q b, q ≠ p → acK (insAK K (nxK K p) p a u) q b = acK K q b) ∧ ∀ b, acK (insAK K (nxK K p) p a u) p b = if u < dif b a then none else some (dif b a * K 6 3) := by
  have hK' := WFK_insA hK hn hp ha hu hx
  obtain ⟨nb, -, -⟩ := nxK_cut hK p
  generalize nxK K p = x at *
  have n' : insAK K x p a u 7 1 = K 7 1 + 1 := rfl
  have d3 : ∀ j, insAK K x p a u 3 j = if j < x then K 3 j else if j = x then p else K 3 (j - 1) := fun j => rfl
  have d4 : ∀ j, insAK K x p a u 4 j = if j < x then K 4 j else if j = x then a else K 4 (j - 1) := fun j => rfl
  have d5 : ∀ j, insAK K x p a u 5 j = if j < x then K 5 j else if j = x then u else K 5 (j - 1) := fun j => rfl
  have e6 : insAK K x p a u 6 3 = K 6 3 := rfl
  refine ⟨fun q b hq => ?_, fun b => ?_⟩
  · rcases axK_of (insAK K x p a u) q hK'.2.1.1 with ⟨z, no⟩ | ⟨a0, a1, a2⟩
    · have z2 : axK K q = -1 := by
        rcases axK_of K q hK.2.1.1 with ⟨a', _⟩ | ⟨b0, b1, b2⟩
        · exact a'
        · exfalso
          by_cases c : axK K q < x
          · have := no (axK K q) b0 (by omega)
            rw [d3, if_pos c] at this
            exact this b2
          · have := no (axK K q + 1) (by omega) (by omega)
            rw [d3, if_neg (by omega), if_neg (by omega), show axK K q + 1 - 1 = axK K q by omega] at this
            exact this b2
      unfold acK
      rw [if_pos z, if_pos z2]
    · have ne : axK (insAK K x p a u) q ≠ x := fun e => by
        rw [e, d3, if_neg (by omega), if_pos rfl] at a2
        exact hq a2.symm
      obtain ⟨y, hy⟩ : ∃ y, y = if axK (insAK K x p a u) q < x then axK (insAK K x p a u) q else axK (insAK K x p a u) q - 1 := ⟨_, rfl⟩
      have yb : 0 ≤ y ∧ y < K 7 1 := by
        rw [hy]
        split <;> omega
      have e3 : K 3 y = q := by
        rw [d3, if_neg ne] at a2
        rw [hy]
        split at a2
        · rename_i c
          rw [if_pos c]
          exact a2
        · rename_i c
          rw [if_neg c]
          exact a2
      have ey : axK K q = y := by
        rw [← e3]
        exact axK_at hK yb.1 yb.2
      have e4 : insAK K x p a u 4 (axK (insAK K x p a u) q) = K 4 y := by
        rw [d4, if_neg ne, hy]
        split <;> rfl
      have e5 : insAK K x p a u 5 (axK (insAK K x p a u) q) = K 5 y := by
        rw [d5, if_neg ne, hy]
        split <;> rfl
      unfold acK
      rw [if_neg (show ¬ axK (insAK K x p a u) q = -1 by omega), e4, e5, e6, ey, if_neg (show ¬ y = -1 by omega)]
  · have at1 := axK_at hK' (x := x) nb.1 (by omega)
    have e3 : insAK K x p a u 3 x = p := by rw [d3, if_neg (by omega), if_pos rfl]
    have e4 : insAK K x p a u 4 x = a := by rw [d4, if_neg (by omega), if_pos rfl]
    have e5 : insAK K x p a u 5 x = u := by rw [d5, if_neg (by omega), if_pos rfl]
    rw [e3] at at1
    unfold acK
    rw [at1, if_neg (by omega), e4, e5, e6]
theorem CS_ins {K : KV} (hK : WFK K) {p a u : Int} (hn : K 7 1 < 6) (hp : 1 ≤ p ∧ p ≤ K 7 0) (ha : 0 ≤ a ∧ a ≤ 500) (hu : 0 ≤ u ∧ u ≤ 9) (hx : axK K p = -1) (c : Int) : CS (insAK K (nxK K p) p a u) c ↔ CSp K p a u c := by
  obtain ⟨i1, i2⟩ := ac_ins hK hn hp ha hu hx
  have e : acK (insAK K (nxK K p) p a u) = acG K (-1) p a u 0 := by
    funext q b
    unfold acG
    rw [← acK_0]
    by_cases z : q = p
    · subst z
      have e0 : acK K q b = some 0 := by
        unfold acK
        rw [if_pos hx]
      rw [i2 b, if_pos rfl, e0]
      unfold acP1
      dsimp only
      rw [Int.add_zero, Int.zero_add]
    · rw [i1 q b z, if_neg z]
  unfold CS CSp
  rw [e]
  exact cont_same (K := K) (K' := insAK K (nxK K p) p a u) rfl rfl rfl _ 0 0 c
/-- an ash that says what the best count says costs nothing more -/
theorem yes_ins {K : KV} (hK : WFK K) {c0 : Int} {A O G : Int → Int} (h : Yes K c0 A O G) {p : Int} (hn : K 7 1 < 6) (hp : 1 ≤ p ∧ p ≤ K 7 0) (ha : A p ≤ 500) (hx : axK K p = -1) : isL (CS (insAK K (nxK K p) p (A p) 0)) c0 := by
  have n := hK.1
  have a0 := ((Bst_b hK h.2 (p := p) (by omega)).1 (by omega)).1
  obtain ⟨i1, i2⟩ := ac_ins hK (p := p) (a := A p) (u := 0) hn hp ⟨a0, ha⟩ (by decide) hx
  have hK' := WFK_insA hK (p := p) (a := A p) (u := 0) hn hp ⟨a0, ha⟩ (by decide) hx
  have P := Bst_P h.2
  have z : acK K p (A p) = some 0 := by
    unfold acK
    rw [if_pos hx]
  have z2 : ∀ b, acK K p b = some 0 := fun b => by
    unfold acK
    rw [if_pos hx]
  have d0 : dif (A p) (A p) = 0 := by
    unfold dif
    omega
  refine ⟨?_, fun c hc => ?_⟩
  · have P' : Pth (insAK K (nxK K p) p (A p) 0) (acK (insAK K (nxK K p) p (A p) 0)) (wvF (acK K) A) A O G := by
      refine ⟨P.1, fun q q0 q1 => ?_⟩
      obtain ⟨b1, b2, b3, b4, b5⟩ := P.2 q q0 q1
      refine ⟨b1, b2, b3, b4, ?_⟩
      by_cases e : q + 1 = p
      · rw [e] at b5 ⊢
        rw [i2, d0, if_neg (by omega), Int.zero_mul, ← b5]
        exact z.symm
      · rw [i1 _ _ e]
        exact b5
    have r := pth_c P' (K 7 0).toNat 0 (by omega) (by show (0 : Int) + ((K 7 0).toNat : Int) = K 7 0; omega)
    rw [P.1] at r
    have e : sumF (stF (insAK K (nxK K p) p (A p) 0) (wvF (acK K) A) O G) (K 7 0).toNat 0 = c0 := yes_sum hK h
    rw [e] at r
    exact r
  · obtain ⟨c', h1, h2⟩ := cont_mono (K := insAK K (nxK K p) p (A p) 0) (K' := K) (ac' := acK K) rfl rfl (fun p => Int.le_refl _) _ 0 0 c (fun q x w _ _ hw => by
      have b := acK_b hK' q x w hw
      by_cases e : q = p
      · rw [e]
        exact ⟨0, z2 x, b.1⟩
      · rw [i1 q x e] at hw
        exact ⟨w, hw, Int.le_refl _⟩) hc
    have := h.1.2 c' h1
    omega
/-- more missing years allowed -/
theorem CS_more {K : KV} (hK : WFK K) {i : Int} (hi : 0 ≤ i ∧ i < K 7 0) {c : Int} (h : CS K c) : ∃ c', CS (setLK K i 2 20) c' ∧ c' ≤ c := by
  have e : ∀ q : Nat, q ≠ 2 → setLK K i 2 20 q = K q := fun q hq => if_neg (by omega)
  have e2 : setLK K i 2 20 2 = setM (K 2) i 20 := if_pos rfl
  have ea : acK (setLK K i 2 20) = acK K := by
    funext q b
    unfold acK axK
    rw [e 3 (by decide), e 4 (by decide), e 5 (by decide), e 6 (by decide), e 7 (by decide)]
  have mb := (hK.2.2.1 i hi.1 hi.2).2.2
  unfold CS
  rw [ea, e 7 (by decide)]
  refine cont_mono (K := K) (K' := setLK K i 2 20) (e 1 (by decide)) (e 6 (by decide)) (fun p => ?_) _ 0 0 c (fun q x w _ _ hw => ⟨w, hw, Int.le_refl _⟩) h
  rw [e2]
  unfold setM
  split
  · rename_i z
    rw [z]
    exact mb.2
  · exact Int.le_refl _
/-- the thickness, when the last layer goes -/
theorem rem_sum {K : KV} (hK : WFK K) {n : Int} (hn : n = K 7 0) (h1 : 1 ≤ n) : remK K (n - 1) 7 0 = n - 1 ∧ sumF (remK K (n - 1) 0) (remK K (n - 1) 7 0).toNat 0 = sumF (K 0) (K 7 0).toNat 0 - K 0 (n - 1) := by
  have e0 : remK K (n - 1) 0 = delM (K 0) (n - 1) := by
    unfold remK
    split <;> rfl
  have e7 : remK K (n - 1) 7 0 = K 7 0 - 1 := by
    unfold remK
    split <;> rfl
  refine ⟨by omega, ?_⟩
  rw [e0, e7, show (K 7 0).toNat = (K 7 0 - 1).toNat + 1 by omega, sumF_sn, show (0 : Int) + ((K 7 0 - 1).toNat : Int) = n - 1 by omega, sumF_cg (g := K 0) _ _ (fun j j0 j1 => ?_)]
  · omega
  · unfold delM
    rw [if_pos (by omega)]
theorem pushH_top {h : Int} (h0 : 0 ≤ h ∧ h ≤ 6) (HK : Int → KV) (K : KV) : pushH h HK K (min 6 (h + 1) - 1) = K := by
  unfold pushH
  by_cases c : h = 6
  · rw [if_pos c, if_neg (by omega)]
  · rw [if_neg c, if_neg (by omega)]
/-- the ages of the best count lie within the bounds -/
theorem pth_pre {K : KV} {ac : acT} {w A O G : Int → Int} (h : Pth K ac w A O G) (h0 : ac 0 (A 0) = some (w 0)) : ∀ (p : Nat), (p : Int) ≤ K 7 0 → pre K ac 600 p (A p) (sumF (fun q => w q + (oK K q (O q) + G q * K 6 2)) p 0)
  | 0, _ => ⟨h.1, rfl⟩
  | p + 1, hp => by
    have ih := pth_pre h h0 p (by omega)
    obtain ⟨ho, hg, e, hb, hw⟩ := h.2 p (by omega) (by omega)
    have hw0 : ac (p : Int) (A p) = some (w p) := by
      cases p with
      | zero => exact h0
      | succ p => exact (h.2 p (by omega) (by omega)).2.2.2.2
    have ep : ((p + 1 : Nat) : Int) = (p : Int) + 1 := by omega
    rw [ep]
    refine ⟨O p, G p, w p, _, A p, ho, hg, e, hb, hw0, ih, ?_⟩
    rw [sumF_sn, show (0 : Int) + (p : Int) = p by omega]
    omega
theorem pth_tel {K : KV} {w O G : Int → Int} : ∀ (p m : Nat), sumF (fun q => w q + (oK K q (O q) + G q * K 6 2)) p 0 + w p + sumF (stF K w O G) m p = w 0 + sumF (stF K w O G) (p + m) 0
  | 0, m => by
    have e : sumF (fun q => w q + (oK K q (O q) + G q * K 6 2)) 0 0 = 0 := rfl
    rw [e, Nat.zero_add, show ((0 : Nat) : Int) = 0 from rfl]
    omega
  | p + 1, m => by
    have ih := pth_tel (K := K) (w := w) (O := O) (G := G) p (m + 1)
    have ep : ((p + 1 : Nat) : Int) = (p : Int) + 1 := by omega
    have es : stF K w O G p = oK K p (O p) + G p * K 6 2 + w (p + 1) := rfl
    rw [sumF_s, es] at ih
    rw [show p + 1 + m = p + (m + 1) by omega, ← ih, sumF_sn, show (0 : Int) + (p : Int) = p by omega, ep]
    omega
theorem yes_BS {K : KV} (hK : WFK K) {c0 : Int} {A O G : Int → Int} (h : Yes K c0 A O G) {p : Int} (h0 : 0 ≤ p) (h1 : p ≤ K 7 0) {s : Int} (hs : 0 ≤ s) : BS K p.toNat (K 7 0 - p).toNat (c0 + s) (A p) := by
  have P := Bst_P h.2
  have z : acK K 0 (A 0) = some (wvF (acK K) A 0) := by
    unfold wvF
    rw [P.1, acK_z hK]
    rfl
  have a := pth_pre P z p.toNat (by omega)
  have b := pth_c P (K 7 0 - p).toNat p h0 (by omega)
  have c := pth_tel (K := K) (w := wvF (acK K) A) (O := O) (G := G) p.toNat (K 7 0 - p).toNat
  have d := yes_sum hK h
  rw [show p.toNat + (K 7 0 - p).toNat = (K 7 0).toNat by omega, d] at c
  have w0 : wvF (acK K) A 0 = 0 := by
    unfold wvF
    rw [P.1, acK_z hK]
    rfl
  rw [show (p.toNat : Int) = p by omega] at a c
  have hw : acK K p (A p) = some (wvF (acK K) A p) := by
    by_cases e : p = 0
    · rw [e]
      exact z
    · have := (P.2 (p - 1) (by omega) (by omega)).2.2.2.2
      rwa [show p - 1 + 1 = p by omega] at this
  unfold BS
  rw [show (p.toNat : Int) = p by omega]
  exact ⟨_, _, _, a, hw, b, by omega⟩
theorem BS_m {K : KV} {p m : Nat} {lim lim' a : Int} (hl : lim ≤ lim') (h : BS K p m lim a) : BS K p m lim' a := by
  obtain ⟨c1, w, c2, g1, g2, g3, e⟩ := h
  exact ⟨c1, w, c2, g1, g2, g3, by omega⟩
theorem BS_b {K : KV} (hK : WFK K) {p m : Nat} (hp : (p : Int) ≤ K 7 0) {lim a : Int} (h : BS K p m lim a) : 0 ≤ a ∧ a ≤ 600 := by
  obtain ⟨c1, w, c2, g1, g2, g3, e⟩ := h
  have a := (pre_old hK hp g1).1
  have b := old_b hK
  omega
theorem W_0 {K : KV} (c : Int) : WS K 0 c ↔ CS K c := by
  unfold WS CS
  rw [acK_0]
theorem isW_b {K : KV} (hK : WFK K) {v : Int} (h : isW K v) : (0 ≤ v ∧ v ≤ 500) ∧ ((∃ c, CS K c) → v = 0) ∧ ((∀ c, ¬ CS K c) → 0 < v) := by
  have n := hK.1
  obtain ⟨h0, ⟨c1, h1⟩, h2⟩ := h
  refine ⟨⟨h0, ?_⟩, fun ⟨c, hc⟩ => ?_, fun hn => ?_⟩
  · by_cases q : 500 < v
    · obtain ⟨c, hc⟩ := WS_top hK (e := 500) (by decide) (K 7 0).toNat 0 0 (by omega) (by omega) (by omega) (by omega)
      exact absurd hc (h2 500 (by decide) q c)
    · omega
  · by_cases q : 0 < v
    · exact absurd ((W_0 c).2 hc) (h2 0 (by decide) q c)
    · omega
  · by_cases q : v = 0
    · rw [q] at h1
      exact absurd ((W_0 c1).1 h1) (hn c1)
    · omega
end
section
/-! THE PROPERTY: the class's answers where the best count is known -/
theorem frC.rf (σ : Sto) : frC σ σ := fun _ _ _ => rfl
theorem frC.tr {σ τ ρ : Sto} (h : frC σ τ) (h' : frC τ ρ) : frC σ ρ := fun k i hk => (h' k i hk).trans (h k i hk)
theorem t_ask_cost {d : Nat} (hd : 6 ≤ d) {σ : Sto} {Q : Post} {K : KV} {h : Int} {HK : Int → KV} {tl : Int} {tx : Int → Int} (hC : ClassR σ K h HK tl tx) (hq : ∀ v, cst K v → ∀ σ', ClassR σ' K h HK tl tx → frC σ σ' → Q (some (.inl (v))) σ') : WPd d m_X4_cost [.inr (0, 0)] σ Q := by
  exact t_X4_cost hd hC (fun no σ' a b => hq _ (Or.inl ⟨rfl, no⟩) σ' a b) (fun v hv σ' a b => hq v (Or.inr hv) σ' a b)
theorem t_ask_best {d : Nat} (hd : 6 ≤ d) {σ : Sto} {Q : Post} {K : KV} {h : Int} {HK : Int → KV} {tl : Int} {tx : Int → Int} (hC : ClassR σ K h HK tl tx) (hno : (∀ c, ¬ CS K c) → ∀ σ', ClassR σ' K h HK tl tx → frC σ σ' → Q (some (.inl (-4))) σ') (hyes : ∀ v A O G, Yes K v A O G → ∀ σ', ClassR σ' K h HK tl tx → frC σ σ' → Q (some (.inl (v))) σ') : WPd d m_X4_cost [.inr (0, 0)] σ Q := by
  obtain ⟨d, rfl⟩ : ∃ k, d = k + 1 := ⟨d - 1, by omega⟩
  intro P hP
  (refine go (t := tb_X4_cost) (WPd_mono d) hP 60 [] ?_; (conv => whnf); (repeat' (first | (refine ⟨fun _ => ?_, fun _ => ?_⟩ <;> first | (exfalso; omega) | (conv => whnf)) | (refine ⟨by omega, ?_⟩; conv => whnf) | (intro _; conv => whnf))))
  refine t_X2_hasCount (by omega) hC.1 hC.2.1 hC.2.2.2.2 (fun ρ fo ro t12 lt b0 => ?_) (fun ρ fo ro no => ?_)
  · have cr := ClassR_R hC fo ro
    ((conv => whnf); (repeat' (first | (refine ⟨fun _ => ?_, fun _ => ?_⟩ <;> first | (exfalso; omega) | (conv => whnf)) | (refine ⟨by omega, ?_⟩; conv => whnf) | (intro _; conv => whnf))))
    refine t_X2_leastCost (by omega) ?_
    ((conv => whnf); (repeat' (first | (refine ⟨fun _ => ?_, fun _ => ?_⟩ <;> first | (exfalso; omega) | (conv => whnf)) | (refine ⟨by omega, ?_⟩; conv => whnf) | (intro _; conv => whnf))))
    exact hyes _ _ _ _ ⟨Mn_L b0 lt, Bst_o hC.2.1 ((RecOk_B ro t12).2.2 lt)⟩ ρ cr.1 cr.2
  · have cr := ClassR_R hC fo ro
    ((conv => whnf); (repeat' (first | (refine ⟨fun _ => ?_, fun _ => ?_⟩ <;> first | (exfalso; omega) | (conv => whnf)) | (refine ⟨by omega, ?_⟩; conv => whnf) | (intro _; conv => whnf))))
    exact hno no ρ cr.1 cr.2
theorem Bst_at {K : KV} {ac : acT} {B : Int} {A O G A' O' G' : Int → Int} (h : Bst K ac B A O G) (h' : Bst K ac B A' O' G') {p : Int} (p0 : 0 ≤ p) : (p ≤ K 7 0 → A' p = A p) ∧ (p < K 7 0 → O' p = O p ∧ G' p = G p) := by
  refine ⟨fun h1 => ?_, fun h1 => ?_⟩
  · have e := (Bst_u h h' p.toNat (by omega)).1
    rw [show (p.toNat : Int) = p by omega] at e
    exact e.symm
  · have e := (Bst_u h h' (p + 1).toNat (by omega)).2 p p0 (by omega)
    exact ⟨e.1.symm, e.2.symm⟩
theorem t_ask_age {d : Nat} (hd : 6 ≤ d) {σ : Sto} {Q : Post} {i c0 : Int} {A O G : Int → Int} {K : KV} {h : Int} {HK : Int → KV} {tl : Int} {tx : Int → Int} (hC : ClassR σ K h HK tl tx) (hY : Yes K c0 A O G) (hi : 0 ≤ i ∧ i ≤ K 7 0) (hq : ∀ σ', ClassR σ' K h HK tl tx → frC σ σ' → Q (some (.inl (A i))) σ') : WPd d m_X4_age [.inr (0, 0), .inl i] σ Q := by
  have n := hC.2.1.1
  refine t_X4_age hd hC (by omega) (fun e => absurd hi e) (fun _ no => absurd hY.1.1 (no _)) (fun _ _ A' O' G' hB σ' a b => ?_)
  rw [(Bst_at hY.2 hB hi.1).1 hi.2]
  exact hq σ' a b
theorem t_ask_own {d : Nat} (hd : 6 ≤ d) {σ : Sto} {Q : Post} {i c0 : Int} {A O G : Int → Int} {K : KV} {h : Int} {HK : Int → KV} {tl : Int} {tx : Int → Int} (hC : ClassR σ K h HK tl tx) (hY : Yes K c0 A O G) (hi : 0 ≤ i ∧ i < K 7 0) (hq : ∀ σ', ClassR σ' K h HK tl tx → frC σ σ' → Q (some (.inl (O i))) σ') : WPd d m_X4_years [.inr (0, 0), .inl i, .inl 0] σ Q := by
  have n := hC.2.1.1
  refine t_X4_years hd hC (by omega) (by decide) (fun e => absurd ⟨hi, by decide⟩ e) (fun _ no => absurd hY.1.1 (no _)) (fun _ _ A' O' G' hB σ' a b => ?_)
  rw [if_pos rfl, ((Bst_at hY.2 hB hi.1).2 hi.2).1]
  exact hq σ' a b
theorem t_ask_miss {d : Nat} (hd : 6 ≤ d) {σ : Sto} {Q : Post} {i c0 : Int} {A O G : Int → Int} {K : KV} {h : Int} {HK : Int → KV} {tl : Int} {tx : Int → Int} (hC : ClassR σ K h HK tl tx) (hY : Yes K c0 A O G) (hi : 0 ≤ i ∧ i < K 7 0) (hq : ∀ σ', ClassR σ' K h HK tl tx → frC σ σ' → Q (some (.inl (G i))) σ') : WPd d m_X4_years [.inr (0, 0), .inl i, .inl 1] σ Q := by
  have n := hC.2.1.1
  refine t_X4_years hd hC (by omega) (by decide) (fun e => absurd ⟨hi, by decide⟩ e) (fun _ no => absurd hY.1.1 (no _)) (fun _ _ A' O' G' hB σ' a b => ?_)
  rw [if_neg (by decide), ((Bst_at hY.2 hB hi.1).2 hi.2).2]
  exact hq σ' a b
theorem t_ask_off {d : Nat} (hd : 6 ≤ d) {σ : Sto} {Q : Post} {x c0 : Int} {A O G : Int → Int} {K : KV} {h : Int} {HK : Int → KV} {tl : Int} {tx : Int → Int} (hC : ClassR σ K h HK tl tx) (hY : Yes K c0 A O G) (hx : 0 ≤ x ∧ x < K 7 1) (hq : ∀ σ', ClassR σ' K h HK tl tx → frC σ σ' → Q (some (.inl (100 + (A (K 3 x) - K 4 x)))) σ') : WPd d m_X4_offset [.inr (0, 0), .inl x] σ Q := by
  have n := hC.2.1.2.1
  have r := (hC.2.1.2.2.2.1 x hx.1 hx.2).1
  refine t_X4_offset hd hC (by omega) (fun e => absurd hx e) (fun _ no => absurd hY.1.1 (no _)) (fun _ _ A' O' G' hB σ' a b => ?_)
  rw [(Bst_at hY.2 hB (show 0 ≤ K 3 x by omega)).1 r.2]
  exact hq σ' a b
theorem totA_u {K : KV} (hK : WFK K) {ac : acT} {B : Int} {A O G A' O' G' : Int → Int} (h : Bst K ac B A O G) (h' : Bst K ac B A' O' G') (w : Int) : totA K A' O' G' w = totA K A O G w := by
  have n := hK.1
  have n1 := hK.2.1
  unfold totA
  rw [cntF_cg (f := O') (g := O) (w := 0) _ _ (fun j j0 j1 => ((Bst_at h h' j0).2 (by omega)).1), cntF_cg (f := O') (g := O) (w := 2) _ _ (fun j j0 j1 => ((Bst_at h h' j0).2 (by omega)).1), sumF_cg (f := G') (g := G) _ _ (fun j j0 j1 => ((Bst_at h h' j0).2 (by omega)).2), (Bst_at h h' n.1).1 (Int.le_refl _), sumF_cg (f := fun i => dif (A' (K 3 i)) (K 4 i)) (g := fun i => dif (A (K 3 i)) (K 4 i)) _ _ (fun j j0 j1 => by
    have r := (hK.2.2.2.1 j j0 (by omega)).1
    show dif (A' (K 3 j)) (K 4 j) = dif (A (K 3 j)) (K 4 j)
    rw [(Bst_at h h' (show 0 ≤ K 3 j by omega)).1 r.2])]
theorem t_ask_total {d : Nat} (hd : 6 ≤ d) {σ : Sto} {Q : Post} {w c0 : Int} {A O G : Int → Int} {K : KV} {h : Int} {HK : Int → KV} {tl : Int} {tx : Int → Int} (hC : ClassR σ K h HK tl tx) (hY : Yes K c0 A O G) (hw : 0 ≤ w ∧ w ≤ 4) (hq : ∀ σ', ClassR σ' K h HK tl tx → frC σ σ' → Q (some (.inl (totA K A O G w))) σ') : WPd d m_X4_total [.inr (0, 0), .inl w] σ Q := by
  refine t_X4_total hd hC (by omega) (fun e => absurd hw e) (fun _ no => absurd hY.1.1 (no _)) (fun _ _ A' O' G' hB σ' a b => ?_)
  rw [totA_u hC.2.1 hY.2 hB]
  exact hq σ' a b
theorem totA_0 (K : KV) (A O G : Int → Int) : totA K A O G 0 = cntF O 0 (K 7 0).toNat 0 := if_pos rfl
theorem totA_1 (K : KV) (A O G : Int → Int) : totA K A O G 1 = cntF O 2 (K 7 0).toNat 0 := by
  unfold totA
  rw [if_neg (by decide), if_pos rfl]
theorem totA_2 (K : KV) (A O G : Int → Int) : totA K A O G 2 = sumF G (K 7 0).toNat 0 := by
  unfold totA
  rw [if_neg (by decide), if_neg (by decide), if_pos rfl]
theorem totA_3 (K : KV) (A O G : Int → Int) : totA K A O G 3 = sumF (fun i => dif (A (K 3 i)) (K 4 i)) (K 7 1).toNat 0 := by
  unfold totA
  rw [if_neg (by decide), if_neg (by decide), if_neg (by decide), if_pos rfl]
theorem totA_4 (K : KV) (A O G : Int → Int) : totA K A O G 4 = A (K 7 0) := by
  unfold totA
  rw [if_neg (by decide), if_neg (by decide), if_neg (by decide), if_neg (by decide)]
theorem t_ask_without {d : Nat} (hd : 7 ≤ d) {σ : Sto} {Q : Post} {x : Int} {K : KV} {h : Int} {HK : Int → KV} {tl : Int} {tx : Int → Int} (hC : ClassR σ K h HK tl tx) (hx : 0 ≤ x ∧ x < K 7 1) (hq : ∀ v, cst (delAK K x) v → ∀ σ', ClassR σ' K h HK tl tx → frC σ σ' → Q (some (.inl (v))) σ') : WPd d m_X4_without [.inr (0, 0), .inl x] σ Q := by
  have n := hC.2.1.2.1
  exact t_X4_without hd hC (by omega) (fun e => absurd hx e) (fun _ no σ' a b => hq _ (cst_del hC.2.1 hx.1 hx.2 (Or.inl ⟨rfl, no⟩)) σ' a b) (fun _ v hv σ' a b => hq v (cst_del hC.2.1 hx.1 hx.2 (Or.inr hv)) σ' a b)
theorem t_ask_widen {d : Nat} (hd : 3 ≤ d) {σ : Sto} {Q : Post} {K : KV} {h : Int} {HK : Int → KV} {tl : Int} {tx : Int → Int} (hC : ClassR σ K h HK tl tx) (hq : ∀ v, (0 ≤ v ∧ v ≤ 500) → ((∃ c, CS K c) → v = 0) → ((∀ c, ¬ CS K c) → 0 < v) → Q (some (.inl v)) σ) : WPd d m_X4_widen [.inr (0, 0)] σ Q := by
  exact t_X4_widen hd hC (fun v hv => by
    have b := isW_b hC.2.1 hv
    exact hq v b.1 b.2.1 b.2.2)
theorem t_ask_ways {d : Nat} (hd : 6 ≤ d) {σ : Sto} {Q : Post} {c0 : Int} {A O G : Int → Int} {K : KV} {h : Int} {HK : Int → KV} {tl : Int} {tx : Int → Int} (hC : ClassR σ K h HK tl tx) (hY : Yes K c0 A O G) (hq : ∀ v, 1 ≤ v ∧ v ≤ 1000000 → ∀ σ', ClassR σ' K h HK tl tx → frC σ σ' → Q (some (.inl (v))) σ') : WPd d m_X4_ways [.inr (0, 0)] σ Q := by
  refine t_X4_ways hd hC (fun no => absurd hY.1.1 (no _)) (fun ex σ' a b => hq _ ?_ σ' a b)
  have := yes_nW hC.2.1 ex
  omega
theorem t_ask_bound {d : Nat} (hd : 7 ≤ d) {σ : Sto} {Q : Post} {p s w c0 : Int} {A O G : Int → Int} {K : KV} {h : Int} {HK : Int → KV} {tl : Int} {tx : Int → Int} (hC : ClassR σ K h HK tl tx) (hY : Yes K c0 A O G) (hp : 0 ≤ p ∧ p ≤ K 7 0) (hs : 0 ≤ s ∧ s ≤ 200) (hw : 0 ≤ w ∧ w ≤ 1) (hq : ∀ a, (0 ≤ a ∧ a ≤ 600) → BS K p.toNat (K 7 0 - p).toNat (c0 + s) a → (w = 0 → ∀ a', BS K p.toNat (K 7 0 - p).toNat (c0 + s) a' → a ≤ a') → (w = 1 → ∀ a', BS K p.toNat (K 7 0 - p).toNat (c0 + s) a' → a' ≤ a) → ∀ σ', ClassR σ' K h HK tl tx → frC σ σ' → Q (some (.inl (a))) σ') : WPd d m_X4_bound [.inr (0, 0), .inl p, .inl s, .inl w] σ Q := by
  have n := hC.2.1.1
  refine t_X4_bound hd hC (by omega) (by omega) (by omega) (fun e => absurd ⟨hp, hs, hw⟩ e) (fun _ no => absurd hY.1.1 (no _)) (fun _ c1 h1 a hB f0 f1 σ' x y => ?_)
  have e := isL_u h1 hY.1
  subst e
  exact hq a (BS_b hC.2.1 (by omega) hB) hB f0 f1 σ' x y
theorem t_ask_ashes {d : Nat} (hd : 2 ≤ d) {σ : Sto} {Q : Post} {K : KV} {h : Int} {HK : Int → KV} {tl : Int} {tx : Int → Int} (hC : ClassR σ K h HK tl tx) (hq : Q (some (.inl (K 7 1))) σ) : WPd d m_X4_count [.inr (0, 0), .inl 1] σ Q := by
  refine t_X4_count hd hC (by decide) ?_
  rw [if_neg (by decide), if_pos rfl]
  exact hq
theorem t_ask_thick {d : Nat} (hd : 2 ≤ d) {σ : Sto} {Q : Post} {K : KV} {h : Int} {HK : Int → KV} {tl : Int} {tx : Int → Int} (hC : ClassR σ K h HK tl tx) (hq : Q (some (.inl (sumF (K 0) (K 7 0).toNat 0))) σ) : WPd d m_X4_count [.inr (0, 0), .inl 2] σ Q := by
  refine t_X4_count hd hC (by decide) ?_
  rw [if_neg (by decide), if_neg (by decide), if_pos rfl]
  exact hq
theorem t_ask_F {d : Nat} (hd : 2 ≤ d) {σ : Sto} {Q : Post} {K : KV} {h : Int} {HK : Int → KV} {tl : Int} {tx : Int → Int} (hC : ClassR σ K h HK tl tx) (hq : Q (some (.inl (K 6 0))) σ) : WPd d m_X4_count [.inr (0, 0), .inl 5] σ Q := by
  refine t_X4_count hd hC (by decide) ?_
  rw [if_neg (by decide), if_neg (by decide), if_neg (by decide), if_neg (by decide), if_neg (by decide), if_pos rfl]
  exact hq
theorem t_ask_Th {d : Nat} (hd : 2 ≤ d) {σ : Sto} {Q : Post} {K : KV} {h : Int} {HK : Int → KV} {tl : Int} {tx : Int → Int} (hC : ClassR σ K h HK tl tx) (hq : Q (some (.inl (K 6 1))) σ) : WPd d m_X4_count [.inr (0, 0), .inl 6] σ Q := by
  refine t_X4_count hd hC (by decide) ?_
  rw [if_neg (by decide), if_neg (by decide), if_neg (by decide), if_neg (by decide), if_neg (by decide), if_neg (by decide), if_pos rfl]
  exact hq
theorem t_ask_G {d : Nat} (hd : 2 ≤ d) {σ : Sto} {Q : Post} {K : KV} {h : Int} {HK : Int → KV} {tl : Int} {tx : Int → Int} (hC : ClassR σ K h HK tl tx) (hq : Q (some (.inl (K 6 2))) σ) : WPd d m_X4_count [.inr (0, 0), .inl 7] σ Q := by
  refine t_X4_count hd hC (by decide) ?_
  rw [if_neg (by decide), if_neg (by decide), if_neg (by decide), if_neg (by decide), if_neg (by decide), if_neg (by decide), if_neg (by decide), if_pos rfl]
  exact hq
theorem t_ask_W {d : Nat} (hd : 2 ≤ d) {σ : Sto} {Q : Post} {K : KV} {h : Int} {HK : Int → KV} {tl : Int} {tx : Int → Int} (hC : ClassR σ K h HK tl tx) (hq : Q (some (.inl (K 6 3))) σ) : WPd d m_X4_count [.inr (0, 0), .inl 8] σ Q := by
  refine t_X4_count hd hC (by decide) ?_
  rw [if_neg (by decide), if_neg (by decide), if_neg (by decide), if_neg (by decide), if_neg (by decide), if_neg (by decide), if_neg (by decide), if_neg (by decide), if_pos rfl]
  exact hq
theorem t_ask_layer {d : Nat} (hd : 3 ≤ d) {σ : Sto} {Q : Post} {i : Int} (w : Nat) {K : KV} {h : Int} {HK : Int → KV} {tl : Int} {tx : Int → Int} (hC : ClassR σ K h HK tl tx) (hi : 0 ≤ i ∧ i < K 7 0) (hw : w ≤ 2) (hq : Q (some (.inl (K w i))) σ) : WPd d m_X4_layer [.inr (0, 0), .inl i, .inl (w : Int)] σ Q := by
  have n := hC.2.1.1
  refine t_X4_layer hd hC (by omega) (by omega) (fun e => absurd ⟨hi, by omega⟩ e) (fun _ => ?_)
  rw [Int.toNat_natCast]
  exact hq
theorem t_ask_ash {d : Nat} (hd : 3 ≤ d) {σ : Sto} {Q : Post} {i : Int} (w q : Nat) {K : KV} {h : Int} {HK : Int → KV} {tl : Int} {tx : Int → Int} (hC : ClassR σ K h HK tl tx) (hi : 0 ≤ i ∧ i < K 7 1) (hw : w ≤ 2 ∧ q = 3 + w) (hq : Q (some (.inl (K q i))) σ) : WPd d m_X4_ash [.inr (0, 0), .inl i, .inl (w : Int)] σ Q := by
  have n := hC.2.1.2.1
  refine t_X4_ash hd hC (by omega) (by omega) (fun e => absurd ⟨hi, by omega⟩ e) (fun _ => ?_)
  rw [Int.toNat_natCast, ← hw.2]
  exact hq
end
section
/-! THE LAW: holds -/
theorem sumF_b {f : Int → Int} {k : Int} : ∀ (n : Nat) (i : Int), (∀ j, i ≤ j → j < i + n → 0 ≤ f j ∧ f j ≤ k) → 0 ≤ sumF f n i ∧ sumF f n i ≤ n * k
  | 0, _, _ => by
    show (0 : Int) ≤ 0 ∧ (0 : Int) ≤ ((0 : Nat) : Int) * k
    rw [show ((0 : Nat) : Int) = 0 from rfl, Int.zero_mul]
    omega
  | n + 1, i, h => by
    have a := h i (by omega) (by omega)
    have ih := sumF_b n (i + 1) (fun j h1 h2 => h j (by omega) (by omega))
    rw [sumF_s, show ((n + 1 : Nat) : Int) = (n : Int) + 1 by omega, Int.add_mul, Int.one_mul]
    omega
theorem t_X6_holds {d : Nat} (hd : 8 ≤ d) {σ : Sto} {Q : Post} {n : Int} {K : KV} {h : Int} {HK : Int → KV} {tl : Int} {tx : Int → Int} (hC : ClassR σ K h HK tl tx) (hn : n = K 7 0) (h1 : 1 ≤ n) (hq : ∀ σ', ClassR σ' K h HK tl tx → frC σ σ' → Q (some (.inl (1))) σ') : WPd d m_X6_holds [.inr (0, 0), .inl n] σ Q := by
  obtain ⟨d, rfl⟩ : ∃ k, d = k + 1 := ⟨d - 1, by omega⟩
  refine wpd_of fun P hT hP => ?_
  have hw := hC.2.1
  have n50 := hw.1
  have a6 := hw.2.1
  (refine go (t := tb_X6_holds) (WPd_mono d) hP 300 [107] ?_; (conv => whnf); (repeat' (first | (refine ⟨fun _ => ?_, fun _ => ?_⟩ <;> first | (exfalso; omega) | (conv => whnf)) | (refine ⟨by omega, ?_⟩; conv => whnf) | (intro _; conv => whnf))))
  refine t_ask_best (by omega) hC (fun no σ1 c1 f1 => ?_) (fun c0 A O G hY σ1 c1 f1 => ?_)
  · ((conv => whnf); (repeat' (first | (refine ⟨fun _ => ?_, fun _ => ?_⟩ <;> first | (exfalso; omega) | (conv => whnf)) | (refine ⟨by omega, ?_⟩; conv => whnf) | (intro _; conv => whnf))))
    refine t_X4_ways (by omega) c1 (fun _ σ2 c2 f2 => ?_) (fun ex => absurd ex (fun e => no _ e.choose_spec))
    ((conv => whnf); (repeat' (first | (refine ⟨fun _ => ?_, fun _ => ?_⟩ <;> first | (exfalso; omega) | (conv => whnf)) | (refine ⟨by omega, ?_⟩; conv => whnf) | (intro _; conv => whnf))))
    refine t_ask_widen (by omega) c2 (fun v vb _ vn => ?_)
    have vn := vn no
    ((conv => whnf); (repeat' (first | (refine ⟨fun _ => ?_, fun _ => ?_⟩ <;> first | (exfalso; omega) | (conv => whnf)) | (refine ⟨by omega, ?_⟩; conv => whnf) | (intro _; conv => whnf))))
    refine t_X4_age (by omega) c2 (by omega) (fun e => absurd (show 0 ≤ n ∧ n ≤ K 7 0 by omega) e) (fun _ _ σ3 c3 f3 => ?_) (fun _ ex => absurd ex (fun e => no _ e.choose_spec))
    ((conv => whnf); (repeat' (first | (refine ⟨fun _ => ?_, fun _ => ?_⟩ <;> first | (exfalso; omega) | (conv => whnf)) | (refine ⟨by omega, ?_⟩; conv => whnf) | (intro _; conv => whnf))))
    exact hq σ3 c3 ((f1.tr f2).tr f3)
  · have cb := CS_b hw hY.1.1
    have hY1 := hY
    ((conv => whnf); (repeat' (first | (refine ⟨fun _ => ?_, fun _ => ?_⟩ <;> first | (exfalso; omega) | (conv => whnf)) | (refine ⟨by omega, ?_⟩; conv => whnf) | (intro _; conv => whnf))))
    refine t_ask_ways (by omega) c1 hY (fun w wb σ2 c2 f2 => ?_)
    ((conv => whnf); (repeat' (first | (refine ⟨fun _ => ?_, fun _ => ?_⟩ <;> first | (exfalso; omega) | (conv => whnf)) | (refine ⟨by omega, ?_⟩; conv => whnf) | (intro _; conv => whnf))))
    refine t_ask_widen (by omega) c2 (fun v vb vy _ => ?_)
    have vy := vy ⟨_, hY.1.1⟩
    ((conv => whnf); (repeat' (first | (refine ⟨fun _ => ?_, fun _ => ?_⟩ <;> first | (exfalso; omega) | (conv => whnf)) | (refine ⟨by omega, ?_⟩; conv => whnf) | (intro _; conv => whnf))))
    refine t_ask_age (by omega) c2 hY (by omega) (fun σ3 c3 f3 => ?_)
    have A0 : A 0 = 0 := hY.2.1
    rw [A0]
    ((conv => whnf); (repeat' (first | (refine ⟨fun _ => ?_, fun _ => ?_⟩ <;> first | (exfalso; omega) | (conv => whnf)) | (refine ⟨by omega, ?_⟩; conv => whnf) | (intro _; conv => whnf))))
    refine t_ask_age (by omega) c3 hY (by omega) (fun σ4 c4 f4 => ?_)
    have An := (Bst_b hw hY.2 (p := n) (by omega)).1 (by omega)
    ((conv => whnf); (repeat' (first | (refine ⟨fun _ => ?_, fun _ => ?_⟩ <;> first | (exfalso; omega) | (conv => whnf)) | (refine ⟨by omega, ?_⟩; conv => whnf) | (intro _; conv => whnf))))
    refine t_ask_total (by omega) c4 hY (by omega) (fun σ5 c5 f5 => ?_)
    rw [totA_4, ← hn]
    ((conv => whnf); (repeat' (first | (refine ⟨fun _ => ?_, fun _ => ?_⟩ <;> first | (exfalso; omega) | (conv => whnf)) | (refine ⟨by omega, ?_⟩; conv => whnf) | (intro _; conv => whnf))))
    refine t_ask_total (by omega) c5 hY (by omega) (fun σ6 c6 f6 => ?_)
    rw [totA_4, ← hn]
    have fr6 : frC σ σ6 := ((((f1.tr f2).tr f3).tr f4).tr f5).tr f6
    ((conv => whnf); (repeat' (first | (refine ⟨fun _ => ?_, fun _ => ?_⟩ <;> first | (exfalso; omega) | (conv => whnf)) | (refine ⟨by omega, ?_⟩; conv => whnf) | (intro _; conv => whnf))))
    have TOT := yes_tot hw hY
    obtain ⟨D, eD⟩ : ∃ D : Int → Int, D = fun i => dif (A (K 3 i)) (K 4 i) := ⟨_, rfl⟩
    rw [← eD] at TOT
    have Db : ∀ j, 0 ≤ j → j < K 7 1 → 0 ≤ D j ∧ D j ≤ 9 := fun j j0 j1 => by
      have a := (yes_ash hw hY j0 j1).2
      have b := (hw.2.2.2.1 j j0 j1).2.2
      have e : D j = dif (A (K 3 j)) (K 4 j) := by rw [eD]
      have d0 : 0 ≤ dif (A (K 3 j)) (K 4 j) := by
        unfold dif
        omega
      omega
    have Dt := sumF_b (f := D) (k := 9) (K 7 1).toNat 0 (fun j j0 j1 => Db j j0 (by omega))
    -- the end, from the sum on
    have C392 : ∀ (x : Int) (τ : Sto), ClassR τ K h HK tl tx → frC σ τ → P 392 [.inr (0, 0), .inl n, .inl c0, .inl 0, .inl (sumF D (K 7 1).toNat 0), .inl 1, .inl x] [] τ := by
      intro x τ c1 f1
      (refine go (t := tb_X6_holds) (WPd_mono d) hP 300 [] ?_; (conv => whnf); (repeat' (first | (refine ⟨fun _ => ?_, fun _ => ?_⟩ <;> first | (exfalso; omega) | (conv => whnf)) | (refine ⟨by omega, ?_⟩; conv => whnf) | (intro _; conv => whnf))))
      refine t_ask_total (by omega) c1 hY (by omega) (fun σ2 c2 f2 => ?_)
      ((conv => whnf); (repeat' (first | (refine ⟨fun _ => ?_, fun _ => ?_⟩ <;> first | (exfalso; omega) | (conv => whnf)) | (refine ⟨by omega, ?_⟩; conv => whnf) | (intro _; conv => whnf))))
      refine t_ask_F (by omega) c2 ?_
      ((conv => whnf); (repeat' (first | (refine ⟨fun _ => ?_, fun _ => ?_⟩ <;> first | (exfalso; omega) | (conv => whnf)) | (refine ⟨by omega, ?_⟩; conv => whnf) | (intro _; conv => whnf))))
      refine t_ask_total (by omega) c2 hY (by omega) (fun σ3 c3 f3 => ?_)
      ((conv => whnf); (repeat' (first | (refine ⟨fun _ => ?_, fun _ => ?_⟩ <;> first | (exfalso; omega) | (conv => whnf)) | (refine ⟨by omega, ?_⟩; conv => whnf) | (intro _; conv => whnf))))
      refine t_ask_Th (by omega) c3 ?_
      ((conv => whnf); (repeat' (first | (refine ⟨fun _ => ?_, fun _ => ?_⟩ <;> first | (exfalso; omega) | (conv => whnf)) | (refine ⟨by omega, ?_⟩; conv => whnf) | (intro _; conv => whnf))))
      refine t_ask_total (by omega) c3 hY (by omega) (fun σ4 c4 f4 => ?_)
      ((conv => whnf); (repeat' (first | (refine ⟨fun _ => ?_, fun _ => ?_⟩ <;> first | (exfalso; omega) | (conv => whnf)) | (refine ⟨by omega, ?_⟩; conv => whnf) | (intro _; conv => whnf))))
      refine t_ask_G (by omega) c4 ?_
      ((conv => whnf); (repeat' (first | (refine ⟨fun _ => ?_, fun _ => ?_⟩ <;> first | (exfalso; omega) | (conv => whnf)) | (refine ⟨by omega, ?_⟩; conv => whnf) | (intro _; conv => whnf))))
      refine t_ask_W (by omega) c4 ?_
      rw [totA_0, totA_1, totA_2]
      ((conv => whnf); (repeat' (first | (refine ⟨fun _ => ?_, fun _ => ?_⟩ <;> first | (exfalso; omega) | (conv => whnf)) | (refine ⟨by omega, ?_⟩; conv => whnf) | (intro _; conv => whnf))))
      refine t_ask_total (by omega) c4 hY (by omega) (fun σ5 c5 f5 => ?_)
      rw [totA_3, ← eD]
      ((conv => whnf); (repeat' (first | (refine ⟨fun _ => ?_, fun _ => ?_⟩ <;> first | (exfalso; omega) | (conv => whnf)) | (refine ⟨by omega, ?_⟩; conv => whnf) | (intro _; conv => whnf))))
      refine t_ask_bound (by omega) c5 hY (by omega) (by omega) (by omega) (fun low lb lB lm _ σ6 c6 f6 => ?_)
      have lm := lm rfl
      ((conv => whnf); (repeat' (first | (refine ⟨fun _ => ?_, fun _ => ?_⟩ <;> first | (exfalso; omega) | (conv => whnf)) | (refine ⟨by omega, ?_⟩; conv => whnf) | (intro _; conv => whnf))))
      refine t_ask_bound (by omega) c6 hY (by omega) (by omega) (by omega) (fun high hb hB _ hm σ7 c7 f7 => ?_)
      have hm := hm rfl
      have at0 := yes_BS hw hY (p := n / 2) (by omega) (by omega) (s := 0) (by omega)
      have l1 := lm _ at0
      have h1 := hm _ at0
      have Ab := (Bst_b hw hY.2 (p := n / 2) (by omega)).1 (by omega)
      ((conv => whnf); (repeat' (first | (refine ⟨fun _ => ?_, fun _ => ?_⟩ <;> first | (exfalso; omega) | (conv => whnf)) | (refine ⟨by omega, ?_⟩; conv => whnf) | (intro _; conv => whnf))))
      refine t_ask_age (by omega) c7 hY (by omega) (fun σ8 c8 f8 => ?_)
      ((conv => whnf); (repeat' (first | (refine ⟨fun _ => ?_, fun _ => ?_⟩ <;> first | (exfalso; omega) | (conv => whnf)) | (refine ⟨by omega, ?_⟩; conv => whnf) | (intro _; conv => whnf))))
      refine t_ask_age (by omega) c8 hY (by omega) (fun σ9 c9 f9 => ?_)
      ((conv => whnf); (repeat' (first | (refine ⟨fun _ => ?_, fun _ => ?_⟩ <;> first | (exfalso; omega) | (conv => whnf)) | (refine ⟨by omega, ?_⟩; conv => whnf) | (intro _; conv => whnf))))
      refine t_ask_bound (by omega) c9 hY (by omega) (by omega) (by omega) (fun low9 lb9 _ lm9 _ σ10 c10 f10 => ?_)
      have lm9 := lm9 rfl _ (BS_m (by omega) lB)
      ((conv => whnf); (repeat' (first | (refine ⟨fun _ => ?_, fun _ => ?_⟩ <;> first | (exfalso; omega) | (conv => whnf)) | (refine ⟨by omega, ?_⟩; conv => whnf) | (intro _; conv => whnf))))
      refine t_ask_bound (by omega) c10 hY (by omega) (by omega) (by omega) (fun high9 hb9 _ _ hm9 σ11 c11 f11 => ?_)
      have hm9 := hm9 rfl _ (BS_m (by omega) hB)
      ((conv => whnf); (repeat' (first | (refine ⟨fun _ => ?_, fun _ => ?_⟩ <;> first | (exfalso; omega) | (conv => whnf)) | (refine ⟨by omega, ?_⟩; conv => whnf) | (intro _; conv => whnf))))
      exact hq σ11 c11 ((((((((((f1.tr f2).tr f3).tr f4).tr f5).tr f6).tr f7).tr f8).tr f9).tr f10).tr f11)
    have L2 : ∀ (m : Nat) (x off : Int) (τ : Sto), m = (K 7 1 - x).toNat → 0 ≤ x → x ≤ K 7 1 → off + sumF D m x = sumF D (K 7 1).toNat 0 → 0 ≤ off ∧ off ≤ 9 * x → ClassR τ K h HK tl tx → frC σ τ → P 255 [.inr (0, 0), .inl n, .inl c0, .inl 0, .inl off, .inl 1, .inl x] [] τ := by
      intro m
      induction m with
      | zero =>
        intro x off τ hm x0 x1 io ob c1 f1
        have e : off = sumF D (K 7 1).toNat 0 := by
          have e0 : sumF D 0 x = 0 := rfl
          omega
        subst e
        have X := C392 x τ c1 f1
        (refine go (t := tb_X6_holds) (WPd_mono d) hP 300 [392] ?_; (conv => whnf); (repeat' (first | (refine ⟨fun _ => ?_, fun _ => ?_⟩ <;> first | (exfalso; omega) | (conv => whnf)) | (refine ⟨by omega, ?_⟩; conv => whnf) | (intro _; conv => whnf))))
        refine t_ask_ashes (by omega) c1 ?_
        ((conv => whnf); (repeat' (first | (refine ⟨fun _ => ?_, fun _ => ?_⟩ <;> first | (exfalso; omega) | (conv => whnf)) | (refine ⟨by omega, ?_⟩; conv => whnf) | (intro _; conv => whnf))))
        exact X
      | succ m ih =>
        intro x off τ hm x0 x1 io ob c1 f1
        have dx := Db x x0 (by omega)
        rw [sumF_s] at io
        have ya := yes_ash hw hY x0 (by omega)
        have pb := hw.2.2.2.1 x x0 (by omega)
        have eDx : D x = dif (A (K 3 x)) (K 4 x) := by rw [eD]
        have C299 : ∀ (ρ : Sto) (off' by' : Int), off' = off + D x → by' = A (K 3 x) - K 4 x → ClassR ρ K h HK tl tx → frC σ ρ → P 299 [.inr (0, 0), .inl n, .inl c0, .inl 0, .inl off', .inl 1, .inl x, .inl by'] [] ρ := by
          intro ρ off' by' eo eb c2 f2
          have db : dif (A (K 3 x)) (K 4 x) = max by' (-by') := by rw [eb]; rfl
          (refine go (t := tb_X6_holds) (WPd_mono d) hP 300 [255] ?_; (conv => whnf); (repeat' (first | (refine ⟨fun _ => ?_, fun _ => ?_⟩ <;> first | (exfalso; omega) | (conv => whnf)) | (refine ⟨by omega, ?_⟩; conv => whnf) | (intro _; conv => whnf))))
          refine t_ask_ash (by omega) 0 3 c2 (by omega) (by decide) ?_
          ((conv => whnf); (repeat' (first | (refine ⟨fun _ => ?_, fun _ => ?_⟩ <;> first | (exfalso; omega) | (conv => whnf)) | (refine ⟨by omega, ?_⟩; conv => whnf) | (intro _; conv => whnf))))
          refine t_ask_age (by omega) c2 hY (show 0 ≤ K 3 x ∧ K 3 x ≤ K 7 0 by omega) (fun σ3 c3 f3 => ?_)
          ((conv => whnf); (repeat' (first | (refine ⟨fun _ => ?_, fun _ => ?_⟩ <;> first | (exfalso; omega) | (conv => whnf)) | (refine ⟨by omega, ?_⟩; conv => whnf) | (intro _; conv => whnf))))
          refine t_ask_ash (by omega) 1 4 c3 (by omega) (by decide) ?_
          ((conv => whnf); (repeat' (first | (refine ⟨fun _ => ?_, fun _ => ?_⟩ <;> first | (exfalso; omega) | (conv => whnf)) | (refine ⟨by omega, ?_⟩; conv => whnf) | (intro _; conv => whnf))))
          refine t_ask_ash (by omega) 2 5 c3 (by omega) (by decide) ?_
          ((conv => whnf); (repeat' (first | (refine ⟨fun _ => ?_, fun _ => ?_⟩ <;> first | (exfalso; omega) | (conv => whnf)) | (refine ⟨by omega, ?_⟩; conv => whnf) | (intro _; conv => whnf))))
          refine t_ask_ash (by omega) 2 5 c3 (by omega) (by decide) ?_
          ((conv => whnf); (repeat' (first | (refine ⟨fun _ => ?_, fun _ => ?_⟩ <;> first | (exfalso; omega) | (conv => whnf)) | (refine ⟨by omega, ?_⟩; conv => whnf) | (intro _; conv => whnf))))
          refine t_ask_without (by omega) c3 (by omega) (fun v hv σ4 c4 f4 => ?_)
          have vb := cst_le (WFK_delA hw ⟨x0, show x < K 7 1 by omega⟩) hY.1 (fun c hc => CS_del_le hw x0 (show x < K 7 1 by omega) hc) hv
          have X := ih (x + 1) off' σ4 (by omega) (by omega) (by omega) (by omega) (by omega) c4 ((f2.tr f3).tr f4)
          ((conv => whnf); (repeat' (first | (refine ⟨fun _ => ?_, fun _ => ?_⟩ <;> first | (exfalso; omega) | (conv => whnf)) | (refine ⟨by omega, ?_⟩; conv => whnf) | (intro _; conv => whnf))))
          (refine hT 7 ?_; exact X)
        (refine go (t := tb_X6_holds) (WPd_mono d) hP 300 [299] ?_; (conv => whnf); (repeat' (first | (refine ⟨fun _ => ?_, fun _ => ?_⟩ <;> first | (exfalso; omega) | (conv => whnf)) | (refine ⟨by omega, ?_⟩; conv => whnf) | (intro _; conv => whnf))))
        refine t_ask_ashes (by omega) c1 ?_
        ((conv => whnf); (repeat' (first | (refine ⟨fun _ => ?_, fun _ => ?_⟩ <;> first | (exfalso; omega) | (conv => whnf)) | (refine ⟨by omega, ?_⟩; conv => whnf) | (intro _; conv => whnf))))
        refine t_ask_off (by omega) c1 hY (by omega) (fun σ2 c2 f2 => ?_)
        have d1 : D x = max (A (K 3 x) - K 4 x) (-(A (K 3 x) - K 4 x)) := by rw [eDx]; rfl
        ((conv => whnf); (repeat' (first | (refine ⟨fun _ => ?_, fun _ => ?_⟩ <;> first | (exfalso; omega) | (conv => whnf)) | (refine ⟨by omega, ?_⟩; conv => whnf) | (intro _; conv => whnf))))
        · exact C299 σ2 _ _ (by omega) (by omega) c2 (f1.tr f2)
        · exact C299 σ2 _ _ (by omega) (by omega) c2 (f1.tr f2)
    have L1 : ∀ (m : Nat) (x : Int) (τ : Sto), m = (n - x).toNat → 0 ≤ x → x ≤ 2 * n → ClassR τ K h HK tl tx → frC σ τ → P 107 [.inr (0, 0), .inl n, .inl c0, .inl 0, .inl 0, .inl 1, .inl x] [] τ := by
      intro m
      induction m using Nat.strongRecOn with
      | _ m ih =>
        intro x τ hm x0 x1 c1 f1
        by_cases xn : n ≤ x
        · have X := L2 _ 0 0 τ rfl (by omega) (by omega) (by rw [Int.zero_add, Int.sub_zero]) (by omega) c1 f1
          (refine go (t := tb_X6_holds) (WPd_mono d) hP 300 [255] ?_; (conv => whnf); (repeat' (first | (refine ⟨fun _ => ?_, fun _ => ?_⟩ <;> first | (exfalso; omega) | (conv => whnf)) | (refine ⟨by omega, ?_⟩; conv => whnf) | (intro _; conv => whnf))))
          exact X
        · have b := (Bst_b hw hY.2 x0).2 (by omega)
          have kb := hw.2.2.1 x x0 (by omega)
          have bA := (Bst_b hw hY.2 x0).1 (by omega)
          have bA1 := (Bst_b hw hY.2 (p := x + 1) (by omega)).1 (by omega)
          have own : (K 1 x = 0 → O x = 1) ∧ (K 1 x = 1 → O x = 0 ∨ O x = 1) ∧ (K 1 x = 2 → O x = 1 ∨ O x = 2) := by
            have b1 := b.1
            unfold lo hi at b1
            refine ⟨fun e => ?_, fun e => ?_, fun e => ?_⟩
            · rw [e, if_neg (by decide), if_neg (by decide)] at b1
              omega
            · rw [e, if_pos rfl, if_neg (by decide)] at b1
              omega
            · rw [e, if_neg (by decide), if_pos rfl] at b1
              omega
          have b2 := b.2.1
          have b3 := b.2.2
          have b4 : 0 ≤ O x ∧ O x ≤ 2 := by omega
          have C191 : ∀ ρ, ClassR ρ K h HK tl tx → frC σ ρ → P 191 [.inr (0, 0), .inl n, .inl c0, .inl 0, .inl 0, .inl 1, .inl x, .inl (O x), .inl (G x), .inl (K 1 x)] [] ρ := by
            intro ρ c2 f2
            (refine go (t := tb_X6_holds) (WPd_mono d) hP 300 [107] ?_; (conv => whnf); (repeat' (first | (refine ⟨fun _ => ?_, fun _ => ?_⟩ <;> first | (exfalso; omega) | (conv => whnf)) | (refine ⟨by omega, ?_⟩; conv => whnf) | (intro _; conv => whnf))))
            refine t_ask_layer (by omega) 2 c2 (by omega) (by decide) ?_
            ((conv => whnf); (repeat' (first | (refine ⟨fun _ => ?_, fun _ => ?_⟩ <;> first | (exfalso; omega) | (conv => whnf)) | (refine ⟨by omega, ?_⟩; conv => whnf) | (intro _; conv => whnf))))
            refine t_ask_age (by omega) c2 hY (by omega) (fun σ3 c3 f3 => ?_)
            ((conv => whnf); (repeat' (first | (refine ⟨fun _ => ?_, fun _ => ?_⟩ <;> first | (exfalso; omega) | (conv => whnf)) | (refine ⟨by omega, ?_⟩; conv => whnf) | (intro _; conv => whnf))))
            refine t_ask_age (by omega) c3 hY (by omega) (fun σ4 c4 f4 => ?_)
            ((conv => whnf); (repeat' (first | (refine ⟨fun _ => ?_, fun _ => ?_⟩ <;> first | (exfalso; omega) | (conv => whnf)) | (refine ⟨by omega, ?_⟩; conv => whnf) | (intro _; conv => whnf))))
            have X := ih (n - (x + (1 + n / 12))).toNat (by omega) (x + (1 + n / 12)) σ4 rfl (by omega) (by omega) c4 ((f2.tr f3).tr f4)
            (refine hT 7 ?_; exact X)
          (refine go (t := tb_X6_holds) (WPd_mono d) hP 300 [191] ?_; (conv => whnf); (repeat' (first | (refine ⟨fun _ => ?_, fun _ => ?_⟩ <;> first | (exfalso; omega) | (conv => whnf)) | (refine ⟨by omega, ?_⟩; conv => whnf) | (intro _; conv => whnf))))
          refine t_ask_own (by omega) c1 hY (by omega) (fun σ2 c2 f2 => ?_)
          ((conv => whnf); (repeat' (first | (refine ⟨fun _ => ?_, fun _ => ?_⟩ <;> first | (exfalso; omega) | (conv => whnf)) | (refine ⟨by omega, ?_⟩; conv => whnf) | (intro _; conv => whnf))))
          refine t_ask_miss (by omega) c2 hY (by omega) (fun σ3 c3 f3 => ?_)
          ((conv => whnf); (repeat' (first | (refine ⟨fun _ => ?_, fun _ => ?_⟩ <;> first | (exfalso; omega) | (conv => whnf)) | (refine ⟨by omega, ?_⟩; conv => whnf) | (intro _; conv => whnf))))
          refine t_ask_layer (by omega) 1 c3 (by omega) (by decide) ?_
          ((conv => whnf); (repeat' (first | (refine ⟨fun _ => ?_, fun _ => ?_⟩ <;> first | (exfalso; omega) | (conv => whnf)) | (refine ⟨by omega, ?_⟩; conv => whnf) | (intro _; conv => whnf))))
          all_goals exact C191 σ3 c3 ((f1.tr f2).tr f3)
    exact L1 _ 0 σ6 rfl (by omega) (by omega) c6 fr6
end
section
/-! THE LAW: cell, builds -/
theorem t_X6_cell {d : Nat} (hd : 1 ≤ d) {σ : Sto} {Q : Post} {k : Int} (hL : 0 ≤ σ 41 0 (-1) ∧ σ 41 0 (-1) ≤ 260) (hk : 0 ≤ k ∧ k ≤ 40) (hq : ∀ v, 0 ≤ v ∧ v ≤ 2147483647 → Q (some (.inl v)) σ) : WPd d m_X6_cell [.inr (41, 0), .inl k] σ Q := by
  obtain ⟨d, rfl⟩ : ∃ k, d = k + 1 := ⟨d - 1, by omega⟩
  intro P hP
  have C19 : ∀ v, P 19 [.inr (41, 0), .inl k] [.inl v] σ := by
    intro v
    (refine go (t := tb_X6_cell) (WPd_mono d) hP 60 [] ?_; (conv => whnf); (repeat' (first | (refine ⟨fun _ => ?_, fun _ => ?_⟩ <;> first | (exfalso; omega) | (conv => whnf)) | (refine ⟨by omega, ?_⟩; conv => whnf) | (intro _; conv => whnf))))
    exact hq _ (by omega)
  (refine go (t := tb_X6_cell) (WPd_mono d) hP 60 [19] ?_; (conv => whnf); (repeat' (first | (refine ⟨fun _ => ?_, fun _ => ?_⟩ <;> first | (exfalso; omega) | (conv => whnf)) | (refine ⟨by omega, ?_⟩; conv => whnf) | (intro _; conv => whnf))))
  all_goals exact C19 _
theorem t_X6_builds {d : Nat} (hd : 6 ≤ d) {σ : Sto} {Q : Post} {K : KV} {h : Int} {HK : Int → KV} {tl : Int} {tx : Int → Int} (hC : ClassR σ K h HK tl tx) (hL : 0 ≤ σ 41 0 (-1) ∧ σ 41 0 (-1) ≤ 260) (h0 : K 7 0 = 0) (h1 : K 7 1 = 0) (hq : ∀ n K' h' HK' σ', (6 ≤ n ∧ n ≤ 35) → K' 7 0 = n → ClassR σ' K' h' HK' tl tx → frC σ σ' → Q (some (.inl n)) σ') : WPd d m_X6_builds [.inr (0, 0), .inr (41, 0)] σ Q := by
  obtain ⟨d, rfl⟩ : ∃ k, d = k + 1 := ⟨d - 1, by omega⟩
  refine wpd_of fun P hT hP => ?_
  have e41 : ∀ τ, frC σ τ → 0 ≤ τ 41 0 (-1) ∧ τ 41 0 (-1) ≤ 260 := fun τ f => by
    rw [f 41 0 (by decide)]
    exact hL
  (refine go (t := tb_X6_builds) (WPd_mono d) hP 300 [14] ?_; (conv => whnf); (repeat' (first | (refine ⟨fun _ => ?_, fun _ => ?_⟩ <;> first | (exfalso; omega) | (conv => whnf)) | (refine ⟨by omega, ?_⟩; conv => whnf) | (intro _; conv => whnf))))
  refine t_X6_cell (by omega) hL (by omega) (fun v0 b0 => ?_)
  obtain ⟨n, en⟩ : ∃ n, 6 + v0 % 30 = n := ⟨_, rfl⟩
  have nb : 6 ≤ n ∧ n ≤ 35 := by omega
  have L3 : ∀ (m : Nat) (a i : Int) (τ : Sto) (K : KV) (h : Int) (HK : Int → KV), m = (4 - i).toNat → 0 ≤ i → i ≤ 4 → ClassR τ K h HK tl tx → K 7 0 = n → frC σ τ → P 141 [.inr (0, 0), .inr (41, 0), .inl n, .inl a, .inl i] [] τ := by
    intro m
    induction m with
    | zero =>
      intro a i τ K h HK hm i0 i1 c1 e1 f1
      (refine go (t := tb_X6_builds) (WPd_mono d) hP 300 [] ?_; (conv => whnf); (repeat' (first | (refine ⟨fun _ => ?_, fun _ => ?_⟩ <;> first | (exfalso; omega) | (conv => whnf)) | (refine ⟨by omega, ?_⟩; conv => whnf) | (intro _; conv => whnf))))
      exact hq n K h HK τ nb e1 c1 f1
    | succ m ih =>
      intro a i τ K h HK hm i0 i1 c1 e1 f1
      (refine go (t := tb_X6_builds) (WPd_mono d) hP 300 [141] ?_; (conv => whnf); (repeat' (first | (refine ⟨fun _ => ?_, fun _ => ?_⟩ <;> first | (exfalso; omega) | (conv => whnf)) | (refine ⟨by omega, ?_⟩; conv => whnf) | (intro _; conv => whnf))))
      refine t_X6_cell (by omega) (e41 τ f1) (by omega) (fun v b => ?_)
      ((conv => whnf); (repeat' (first | (refine ⟨fun _ => ?_, fun _ => ?_⟩ <;> first | (exfalso; omega) | (conv => whnf)) | (refine ⟨by omega, ?_⟩; conv => whnf) | (intro _; conv => whnf))))
      refine t_X4_set (by omega) c1 (by omega) (by omega) (fun e => absurd (show (0 ≤ i ∧ i ≤ 3) ∧ (0 ≤ 1 + v % 12 ∧ 1 + v % 12 ≤ 50) by omega) e) (fun _ σ2 c2 f2 => ?_)
      have X := ih a (i + 1) σ2 _ _ _ (by omega) (by omega) (by omega) c2 (show setSK K i (1 + v % 12) 7 0 = n from e1) (f1.tr f2)
      ((conv => whnf); (repeat' (first | (refine ⟨fun _ => ?_, fun _ => ?_⟩ <;> first | (exfalso; omega) | (conv => whnf)) | (refine ⟨by omega, ?_⟩; conv => whnf) | (intro _; conv => whnf))))
      exact X
  have L2 : ∀ (m : Nat) (a i : Int) (τ : Sto) (K : KV) (h : Int) (HK : Int → KV), m = (4 - i).toNat → 0 ≤ i → i ≤ 4 → 0 ≤ a → a ≤ 14 * i → ClassR τ K h HK tl tx → K 7 0 = n → K 7 1 ≤ i → frC σ τ → P 78 [.inr (0, 0), .inr (41, 0), .inl n, .inl a, .inl i] [] τ := by
    intro m
    induction m with
    | zero =>
      intro a i τ K h HK hm i0 i1 a0 a1 c1 e1 g1 f1
      have X := L3 _ a 0 τ K h HK rfl (by omega) (by omega) c1 e1 f1
      (refine go (t := tb_X6_builds) (WPd_mono d) hP 300 [141] ?_; (conv => whnf); (repeat' (first | (refine ⟨fun _ => ?_, fun _ => ?_⟩ <;> first | (exfalso; omega) | (conv => whnf)) | (refine ⟨by omega, ?_⟩; conv => whnf) | (intro _; conv => whnf))))
      exact X
    | succ m ih =>
      intro a i τ K h HK hm i0 i1 a0 a1 c1 e1 g1 f1
      (refine go (t := tb_X6_builds) (WPd_mono d) hP 300 [78] ?_; (conv => whnf); (repeat' (first | (refine ⟨fun _ => ?_, fun _ => ?_⟩ <;> first | (exfalso; omega) | (conv => whnf)) | (refine ⟨by omega, ?_⟩; conv => whnf) | (intro _; conv => whnf))))
      refine t_X6_cell (by omega) (e41 τ f1) (by omega) (fun v b => ?_)
      have z1 : 0 ≤ v % n ∧ v % n < n := ⟨Int.emod_nonneg _ (by omega), Int.emod_lt_of_pos _ (by omega)⟩
      have z2 : 0 ≤ i * n ∧ i * n ≤ 4 * 35 := mul_b (by omega) (by omega) (by omega) (by omega)
      have z3 : 0 ≤ (i * n + v % n) / 4 % n ∧ (i * n + v % n) / 4 % n < n := ⟨Int.emod_nonneg _ (by omega), Int.emod_lt_of_pos _ (by omega)⟩
      ((conv => whnf); (repeat' (first | (refine ⟨fun _ => ?_, fun _ => ?_⟩ <;> first | (exfalso; omega) | (conv => whnf)) | (refine ⟨by omega, ?_⟩; conv => whnf) | (intro _; conv => whnf))))
      have X := fun (σ2 : Sto) (K2 : KV) (h2 : Int) (HK2 : Int → KV) (c2 : ClassR σ2 K2 h2 HK2 tl tx) (e2 : K2 7 0 = n) (g2 : K2 7 1 ≤ i + 1) (f2 : frC σ σ2) => ih (a + v % 15) (i + 1) σ2 K2 h2 HK2 (by omega) (by omega) (by omega) (by omega) (by omega) c2 e2 g2 f2
      refine t_X4_addAsh (by omega) c1 (by omega) (by omega) (by omega) (fun e => absurd (show (1 ≤ 1 + (i * n + v % n) / 4 % n ∧ 1 + (i * n + v % n) / 4 % n ≤ K 7 0) ∧ (0 ≤ a + v % 15 ∧ a + v % 15 ≤ 500) ∧ (0 ≤ v / 64 % 8 ∧ v / 64 % 8 ≤ 9) by omega) e) (fun _ _ => ?_) (fun _ _ e => ?_) (fun _ _ _ σ2 c2 f2 => ?_)
      · have X := X τ K h HK c1 e1 (by omega) f1
        ((conv => whnf); (repeat' (first | (refine ⟨fun _ => ?_, fun _ => ?_⟩ <;> first | (exfalso; omega) | (conv => whnf)) | (refine ⟨by omega, ?_⟩; conv => whnf) | (intro _; conv => whnf))))
        (refine hT 5 ?_; exact X)
      · exfalso
        omega
      · have X := X σ2 _ _ _ c2 (show K 7 0 = n from e1) (show K 7 1 + 1 ≤ i + 1 by omega) (f1.tr f2)
        ((conv => whnf); (repeat' (first | (refine ⟨fun _ => ?_, fun _ => ?_⟩ <;> first | (exfalso; omega) | (conv => whnf)) | (refine ⟨by omega, ?_⟩; conv => whnf) | (intro _; conv => whnf))))
        (refine hT 5 ?_; exact X)
  have L1 : ∀ (m : Nat) (k : Int) (τ : Sto) (K : KV) (h : Int) (HK : Int → KV), m = (n - k).toNat → 0 ≤ k → k ≤ n → ClassR τ K h HK tl tx → K 7 0 = k → K 7 1 = 0 → frC σ τ → P 14 [.inr (0, 0), .inr (41, 0), .inl n, .inl k] [] τ := by
    intro m
    induction m with
    | zero =>
      intro k τ K h HK hm k0 k1 c1 e1 g1 f1
      have X := L2 _ 0 0 τ K h HK rfl (by omega) (by omega) (by omega) (by omega) c1 (by omega) (by omega) f1
      (refine go (t := tb_X6_builds) (WPd_mono d) hP 300 [78] ?_; (conv => whnf); (repeat' (first | (refine ⟨fun _ => ?_, fun _ => ?_⟩ <;> first | (exfalso; omega) | (conv => whnf)) | (refine ⟨by omega, ?_⟩; conv => whnf) | (intro _; conv => whnf))))
      exact X
    | succ m ih =>
      intro k τ K h HK hm k0 k1 c1 e1 g1 f1
      (refine go (t := tb_X6_builds) (WPd_mono d) hP 300 [14] ?_; (conv => whnf); (repeat' (first | (refine ⟨fun _ => ?_, fun _ => ?_⟩ <;> first | (exfalso; omega) | (conv => whnf)) | (refine ⟨by omega, ?_⟩; conv => whnf) | (intro _; conv => whnf))))
      refine t_X6_cell (by omega) (e41 τ f1) (by omega) (fun v b => ?_)
      have z1 : 0 ≤ v / (1 + k / 20) ∧ v / (1 + k / 20) ≤ 2147483647 := by
        have a := Int.ediv_nonneg b.1 (show 0 ≤ 1 + k / 20 by omega)
        have c := Int.ediv_le_self (1 + k / 20) b.1
        omega
      ((conv => whnf); (repeat' (first | (refine ⟨fun _ => ?_, fun _ => ?_⟩ <;> first | (exfalso; omega) | (conv => whnf)) | (refine ⟨by omega, ?_⟩; conv => whnf) | (intro _; conv => whnf))))
      generalize v / (1 + k / 20) = z at *
      refine t_X4_addLayer (by omega) c1 (by omega) (by omega) (by omega) (by omega) (fun e => absurd (show (0 ≤ k ∧ k ≤ K 7 0) ∧ (1 ≤ 1 + z % 99 ∧ 1 + z % 99 ≤ 99) ∧ (0 ≤ z / 99 % 3 ∧ z / 99 % 3 ≤ 2) ∧ (0 ≤ z / 300 % 9 ∧ z / 300 % 9 ≤ 20) by omega) e) (fun _ e => ?_) (fun _ _ σ2 c2 f2 => ?_)
      · exfalso
        omega
      · have X := ih (k + 1) σ2 _ _ _ (by omega) (by omega) (by omega) c2 (show K 7 0 + 1 = k + 1 by omega) (show K 7 1 = 0 from g1) (f1.tr f2)
        ((conv => whnf); (repeat' (first | (refine ⟨fun _ => ?_, fun _ => ?_⟩ <;> first | (exfalso; omega) | (conv => whnf)) | (refine ⟨by omega, ?_⟩; conv => whnf) | (intro _; conv => whnf))))
        (refine hT 4 ?_; exact X)
  ((conv => whnf); (repeat' (first | (refine ⟨fun _ => ?_, fun _ => ?_⟩ <;> first | (exfalso; omega) | (conv => whnf)) | (refine ⟨by omega, ?_⟩; conv => whnf) | (intro _; conv => whnf))))
  rw [en]
  exact L1 _ 0 σ K h HK rfl (by omega) (by omega) hC (by omega) h1 (frC.rf σ)
end
section
/-! THE LAW from behind its constructor on -/
def LQ : Post := fun r _ => r = some (.inl 1)
theorem HistR_h {σ : Sto} {K : KV} {h : Int} {HK : Int → KV} {tl : Int} {tx : Int → Int} (hC : ClassR σ K h HK tl tx) : 0 ≤ h ∧ h ≤ 6 := hC.2.2.1.2.1
theorem thick_b {K : KV} (hK : WFK K) : 0 ≤ sumF (K 0) (K 7 0).toNat 0 ∧ sumF (K 0) (K 7 0).toNat 0 ≤ 4950 := by
  have n := hK.1
  have a := sumF_b (f := K 0) (k := 99) (K 7 0).toNat 0 (fun j j0 j1 => by
    have := (hK.2.2.1 j j0 (by omega)).1
    omega)
  omega
/-- undo behind a change -/
theorem t_back {d : Nat} (hd : 5 ≤ d) {σ : Sto} {Q : Post} {K K' : KV} {h : Int} {HK : Int → KV} {tl : Int} {tx : Int → Int} (h0 : 0 ≤ h ∧ h ≤ 6) (hC : ClassR σ K' (min 6 (h + 1)) (pushH h HK K) tl tx) (hq : ∀ v h' HK' σ', (0 ≤ v ∧ v ≤ 6) → ClassR σ' K h' HK' tl tx → frC σ σ' → Q (some (.inl v)) σ') : WPd d m_X4_undo [.inr (0, 0)] σ Q := by
  refine t_X4_undo hd hC (fun e => by omega) (fun _ σ' a b => ?_)
  rw [pushH_top h0] at a
  exact hq _ _ _ σ' (by omega) a b
theorem law_run {d : Nat} (hd : 8 ≤ d) {P : Ctx} (hT : ∀ (n : Nat) {pc : Nat} {ls st : List AV} {σ : Sto}, P pc (ls.take n) st σ → P pc ls st σ) (hP : ∀ pc ls st σ, stp (WPd d) LQ P ls st σ (lk2 tb_law pc) → P pc ls st σ) {σ : Sto} {K : KV} {h : Int} {HK : Int → KV} {tl : Int} {tx : Int → Int} (hC : ClassR σ K h HK tl tx) (hL : 0 ≤ σ 41 0 (-1) ∧ σ 41 0 (-1) ≤ 260) (h0 : K 7 0 = 0) (h1 : K 7 1 = 0) : P 8 [.inr (41, 0), .inr (0, 0)] [] σ := by
  have e41 : ∀ τ, frC σ τ → 0 ≤ τ 41 0 (-1) ∧ τ 41 0 (-1) ≤ 260 := fun τ f => by
    rw [f 41 0 (by decide)]
    exact hL
  (refine go (t := tb_law) (WPd_mono d) hP 300 [122, 108] ?_; (conv => whnf); (repeat' (first | (refine ⟨fun _ => ?_, fun _ => ?_⟩ <;> first | (exfalso; omega) | (conv => whnf)) | (refine ⟨by omega, ?_⟩; conv => whnf) | (intro _; conv => whnf))))
  refine t_X6_builds (by omega) hC hL h0 h1 (fun n K1 H1 HK1 σ1 nb e1 c1 f1 => ?_)
  ((conv => whnf); (repeat' (first | (refine ⟨fun _ => ?_, fun _ => ?_⟩ <;> first | (exfalso; omega) | (conv => whnf)) | (refine ⟨by omega, ?_⟩; conv => whnf) | (intro _; conv => whnf))))
  refine t_X6_holds (by omega) c1 e1.symm (by omega) (fun σ2 c2 f2 => ?_)
  ((conv => whnf); (repeat' (first | (refine ⟨fun _ => ?_, fun _ => ?_⟩ <;> first | (exfalso; omega) | (conv => whnf)) | (refine ⟨by omega, ?_⟩; conv => whnf) | (intro _; conv => whnf))))
  refine t_ask_widen (by omega) c2 (fun wide wb _ _ => ?_)
  ((conv => whnf); (repeat' (first | (refine ⟨fun _ => ?_, fun _ => ?_⟩ <;> first | (exfalso; omega) | (conv => whnf)) | (refine ⟨by omega, ?_⟩; conv => whnf) | (intro _; conv => whnf))))
  refine t_ask_cost (by omega) c2 (fun had hhad σ3 c3 f3 => ?_)
  have hadb := cst_b c2.2.1 hhad
  have C369 : ∀ (τ : Sto) (K : KV) (h : Int) (HK : Int → KV) (c : Int), cst K c → ClassR τ K h HK tl tx → K 7 0 = n → frC σ τ → P 369 [.inr (41, 0), .inr (0, 0), .inl n, .inl 1, .inl wide, .inl had, .inl c] [] τ := by
    intro τ K h HK c hc c1 e1 f1
    have hw := c1.2.1
    have tb := thick_b hw
    have kb := (hw.2.2.1 (n - 1) (by omega) (by omega)).1
    have cb := cst_b hw hc
    obtain ⟨r7, rs⟩ := rem_sum hw e1.symm (by omega)
    (refine go (t := tb_law) (WPd_mono d) hP 300 [] ?_; (conv => whnf); (repeat' (first | (refine ⟨fun _ => ?_, fun _ => ?_⟩ <;> first | (exfalso; omega) | (conv => whnf)) | (refine ⟨by omega, ?_⟩; conv => whnf) | (intro _; conv => whnf))))
    refine t_ask_thick (by omega) c1 ?_
    ((conv => whnf); (repeat' (first | (refine ⟨fun _ => ?_, fun _ => ?_⟩ <;> first | (exfalso; omega) | (conv => whnf)) | (refine ⟨by omega, ?_⟩; conv => whnf) | (intro _; conv => whnf))))
    refine t_ask_layer (by omega) 0 c1 (by omega) (by decide) ?_
    ((conv => whnf); (repeat' (first | (refine ⟨fun _ => ?_, fun _ => ?_⟩ <;> first | (exfalso; omega) | (conv => whnf)) | (refine ⟨by omega, ?_⟩; conv => whnf) | (intro _; conv => whnf))))
    refine t_X4_removeLayer (by omega) c1 (by omega) (fun e => absurd (show 0 ≤ n - 1 ∧ n - 1 < K 7 0 by omega) e) (fun _ σ4 c4 f4 => ?_)
    ((conv => whnf); (repeat' (first | (refine ⟨fun _ => ?_, fun _ => ?_⟩ <;> first | (exfalso; omega) | (conv => whnf)) | (refine ⟨by omega, ?_⟩; conv => whnf) | (intro _; conv => whnf))))
    refine t_ask_thick (by omega) c4 ?_
    rw [rs]
    ((conv => whnf); (repeat' (first | (refine ⟨fun _ => ?_, fun _ => ?_⟩ <;> first | (exfalso; omega) | (conv => whnf)) | (refine ⟨by omega, ?_⟩; conv => whnf) | (intro _; conv => whnf))))
    refine t_back (by omega) (HistR_h c1) c4 (fun v h5 HK5 σ5 vb c5 f5 => ?_)
    ((conv => whnf); (repeat' (first | (refine ⟨fun _ => ?_, fun _ => ?_⟩ <;> first | (exfalso; omega) | (conv => whnf)) | (refine ⟨by omega, ?_⟩; conv => whnf) | (intro _; conv => whnf))))
    refine t_ask_cost (by omega) c5 (fun v6 hv6 σ6 c6 f6 => ?_)
    have e6 := cst_u hv6 hc
    ((conv => whnf); (repeat' (first | (refine ⟨fun _ => ?_, fun _ => ?_⟩ <;> first | (exfalso; omega) | (conv => whnf)) | (refine ⟨by omega, ?_⟩; conv => whnf) | (intro _; conv => whnf))))
    refine t_ask_thick (by omega) c6 ?_
    ((conv => whnf); (repeat' (first | (refine ⟨fun _ => ?_, fun _ => ?_⟩ <;> first | (exfalso; omega) | (conv => whnf)) | (refine ⟨by omega, ?_⟩; conv => whnf) | (intro _; conv => whnf))))
  have C294 : ∀ (τ : Sto) (K : KV) (h : Int) (HK : Int → KV) (c x y z w : Int), isL (CS K) c → ClassR τ K h HK tl tx → K 7 0 = n → frC σ τ → P 294 [.inr (41, 0), .inr (0, 0), .inl n, .inl 1, .inl wide, .inl had, .inl c, .inl x, .inl y, .inl z, .inl w] [] τ := by
    intro τ K h HK c x y z w hc c1 e1 f1
    have hw := c1.2.1
    have cb := CS_b hw hc.1
    (refine go (t := tb_law) (WPd_mono d) hP 300 [369] ?_; (conv => whnf); (repeat' (first | (refine ⟨fun _ => ?_, fun _ => ?_⟩ <;> first | (exfalso; omega) | (conv => whnf)) | (refine ⟨by omega, ?_⟩; conv => whnf) | (intro _; conv => whnf))))
    refine t_X6_cell (by omega) (e41 τ f1) (by omega) (fun v b => ?_)
    have z1 : 0 ≤ v % n ∧ v % n < n := ⟨Int.emod_nonneg _ (by omega), Int.emod_lt_of_pos _ (by omega)⟩
    ((conv => whnf); (repeat' (first | (refine ⟨fun _ => ?_, fun _ => ?_⟩ <;> first | (exfalso; omega) | (conv => whnf)) | (refine ⟨by omega, ?_⟩; conv => whnf) | (intro _; conv => whnf))))
    generalize v % n = k at *
    have mb := (hw.2.2.1 k z1.1 (by omega)).2.2
    refine t_ask_layer (by omega) 2 c1 (by omega) (by decide) ?_
    ((conv => whnf); (repeat' (first | (refine ⟨fun _ => ?_, fun _ => ?_⟩ <;> first | (exfalso; omega) | (conv => whnf)) | (refine ⟨by omega, ?_⟩; conv => whnf) | (intro _; conv => whnf))))
    refine t_X4_setLayer (by omega) c1 (by omega) (by omega) (by omega) (fun e => absurd (show (0 ≤ k ∧ k < K 7 0) ∧ (0 ≤ (2 : Int) ∧ (2 : Int) ≤ 2) ∧ (lowP 2 ≤ 20 ∧ 20 ≤ topP 2) from ⟨by omega, by decide, by decide⟩) e) (fun _ σ2 c2 f2 => ?_)
    have e2 : K (2 : Int).toNat k = K 2 k := rfl
    rw [e2]
    ((conv => whnf); (repeat' (first | (refine ⟨fun _ => ?_, fun _ => ?_⟩ <;> first | (exfalso; omega) | (conv => whnf)) | (refine ⟨by omega, ?_⟩; conv => whnf) | (intro _; conv => whnf))))
    refine t_ask_cost (by omega) c2 (fun v3 hv3 σ3 c3 f3 => ?_)
    have b3 := cst_le c2.2.1 hc (fun c h => CS_more hw (show 0 ≤ k ∧ k < K 7 0 by omega) h) hv3
    ((conv => whnf); (repeat' (first | (refine ⟨fun _ => ?_, fun _ => ?_⟩ <;> first | (exfalso; omega) | (conv => whnf)) | (refine ⟨by omega, ?_⟩; conv => whnf) | (intro _; conv => whnf))))
    refine t_ask_cost (by omega) c3 (fun v4 hv4 σ4 c4 f4 => ?_)
    have e4 := cst_u hv4 hv3
    ((conv => whnf); (repeat' (first | (refine ⟨fun _ => ?_, fun _ => ?_⟩ <;> first | (exfalso; omega) | (conv => whnf)) | (refine ⟨by omega, ?_⟩; conv => whnf) | (intro _; conv => whnf))))
    refine t_back (by omega) (HistR_h c1) c4 (fun v5 h5 HK5 σ5 vb c5 f5 => ?_)
    ((conv => whnf); (repeat' (first | (refine ⟨fun _ => ?_, fun _ => ?_⟩ <;> first | (exfalso; omega) | (conv => whnf)) | (refine ⟨by omega, ?_⟩; conv => whnf) | (intro _; conv => whnf))))
    refine t_ask_cost (by omega) c5 (fun v6 hv6 σ6 c6 f6 => ?_)
    have e6 := cst_u hv6 (Or.inr hc)
    have X := C369 σ6 K h5 HK5 c (Or.inr hc) c6 e1 (((((f1.tr f2).tr f3).tr f4).tr f5).tr f6)
    ((conv => whnf); (repeat' (first | (refine ⟨fun _ => ?_, fun _ => ?_⟩ <;> first | (exfalso; omega) | (conv => whnf)) | (refine ⟨by omega, ?_⟩; conv => whnf) | (intro _; conv => whnf))))
    (refine hT 7 ?_; exact X)
  have C146 : ∀ (τ : Sto) (K : KV) (h : Int) (HK : Int → KV), ClassR τ K h HK tl tx → K 7 0 = n → K 7 1 ≤ 1 → frC σ τ → P 146 [.inr (41, 0), .inr (0, 0), .inl n, .inl 1, .inl wide, .inl had] [] τ := by
    intro τ K h HK c1 e1 g1 f1
    have hw := c1.2.1
    (refine go (t := tb_law) (WPd_mono d) hP 300 [369, 294] ?_; (conv => whnf); (repeat' (first | (refine ⟨fun _ => ?_, fun _ => ?_⟩ <;> first | (exfalso; omega) | (conv => whnf)) | (refine ⟨by omega, ?_⟩; conv => whnf) | (intro _; conv => whnf))))
    refine t_ask_best (by omega) c1 (fun no σ2 c2 f2 => ?_) (fun c A O G hY σ2 c2 f2 => ?_)
    · have X := C369 σ2 K h HK (-4) (Or.inl ⟨rfl, no⟩) c2 e1 (f1.tr f2)
      ((conv => whnf); (repeat' (first | (refine ⟨fun _ => ?_, fun _ => ?_⟩ <;> first | (exfalso; omega) | (conv => whnf)) | (refine ⟨by omega, ?_⟩; conv => whnf) | (intro _; conv => whnf))))
      exact X
    · have cb := CS_b hw hY.1.1
      ((conv => whnf); (repeat' (first | (refine ⟨fun _ => ?_, fun _ => ?_⟩ <;> first | (exfalso; omega) | (conv => whnf)) | (refine ⟨by omega, ?_⟩; conv => whnf) | (intro _; conv => whnf))))
      refine t_X6_cell (by omega) (e41 σ2 (f1.tr f2)) (by omega) (fun v b => ?_)
      have z1 : 0 ≤ v % n ∧ v % n < n := ⟨Int.emod_nonneg _ (by omega), Int.emod_lt_of_pos _ (by omega)⟩
      ((conv => whnf); (repeat' (first | (refine ⟨fun _ => ?_, fun _ => ?_⟩ <;> first | (exfalso; omega) | (conv => whnf)) | (refine ⟨by omega, ?_⟩; conv => whnf) | (intro _; conv => whnf))))
      obtain ⟨p, ep⟩ : ∃ p, 1 + v % n = p := ⟨_, rfl⟩
      rw [ep]
      have pb : 1 ≤ p ∧ p ≤ K 7 0 := by omega
      refine t_ask_age (by omega) c2 hY (by omega) (fun σ3 c3 f3 => ?_)
      have Ab := (Bst_b hw hY.2 (p := p) (by omega)).1 (by omega)
      ((conv => whnf); (repeat' (first | (refine ⟨fun _ => ?_, fun _ => ?_⟩ <;> first | (exfalso; omega) | (conv => whnf)) | (refine ⟨by omega, ?_⟩; conv => whnf) | (intro _; conv => whnf))))
      have fr3 := (f1.tr f2).tr f3
      refine t_X4_costWith (by omega) c3 (by omega) (by omega) (by omega) (fun e => ?_) (fun _ q2 => ?_) (fun r q no => ?_) (fun r q v4 hv4 σ4 c4 f4 => ?_)
      · have q : 500 < A p := by omega
        have X := fun z w => C294 σ3 K h HK c p (A p) z w hY.1 c3 e1 fr3
        ((conv => whnf); (repeat' (first | (refine ⟨fun _ => ?_, fun _ => ?_⟩ <;> first | (exfalso; omega) | (conv => whnf)) | (refine ⟨by omega, ?_⟩; conv => whnf) | (intro _; conv => whnf))))
        exact X _ _
      · have X := fun z w => C294 σ3 K h HK c p (A p) z w hY.1 c3 e1 fr3
        ((conv => whnf); (repeat' (first | (refine ⟨fun _ => ?_, fun _ => ?_⟩ <;> first | (exfalso; omega) | (conv => whnf)) | (refine ⟨by omega, ?_⟩; conv => whnf) | (intro _; conv => whnf))))
        exact X _ _
      · exact absurd ((CS_ins hw (by omega) r.1 r.2.1 r.2.2 q c).1 (yes_ins hw hY (by omega) r.1 r.2.1.2 q).1) (no c)
      · have yi := yes_ins hw hY (by omega) r.1 r.2.1.2 q
        have e4 : v4 = c := by
          refine isL_u ⟨(CS_ins hw (by omega) r.1 r.2.1 r.2.2 q v4).2 hv4.1, fun c hc => hv4.2 c ((CS_ins hw (by omega) r.1 r.2.1 r.2.2 q c).1 hc)⟩ yi
        have nx := (nxK_cut hw p).1
        ((conv => whnf); (repeat' (first | (refine ⟨fun _ => ?_, fun _ => ?_⟩ <;> first | (exfalso; omega) | (conv => whnf)) | (refine ⟨by omega, ?_⟩; conv => whnf) | (intro _; conv => whnf))))
        refine t_X4_addAsh (by omega) c4 (by omega) (by omega) (by omega) (fun e => absurd r e) (fun _ e => absurd q e) (fun _ _ e => by omega) (fun _ _ _ σ5 c5 f5 => ?_)
        ((conv => whnf); (repeat' (first | (refine ⟨fun _ => ?_, fun _ => ?_⟩ <;> first | (exfalso; omega) | (conv => whnf)) | (refine ⟨by omega, ?_⟩; conv => whnf) | (intro _; conv => whnf))))
        refine t_ask_cost (by omega) c5 (fun v6 hv6 σ6 c6 f6 => ?_)
        have e6 := cst_u hv6 (Or.inr yi)
        ((conv => whnf); (repeat' (first | (refine ⟨fun _ => ?_, fun _ => ?_⟩ <;> first | (exfalso; omega) | (conv => whnf)) | (refine ⟨by omega, ?_⟩; conv => whnf) | (intro _; conv => whnf))))
        refine t_X6_holds (by omega) c6 (show n = K 7 0 from e1.symm) (by omega) (fun σ7 c7 f7 => ?_)
        ((conv => whnf); (repeat' (first | (refine ⟨fun _ => ?_, fun _ => ?_⟩ <;> first | (exfalso; omega) | (conv => whnf)) | (refine ⟨by omega, ?_⟩; conv => whnf) | (intro _; conv => whnf))))
        refine t_back (by omega) (HistR_h c4) c7 (fun v8 h8 HK8 σ8 vb c8 f8 => ?_)
        have X := fun z w => C294 σ8 K h8 HK8 c p (A p) z w hY.1 c8 e1 (((((fr3.tr f4).tr f5).tr f6).tr f7).tr f8)
        ((conv => whnf); (repeat' (first | (refine ⟨fun _ => ?_, fun _ => ?_⟩ <;> first | (exfalso; omega) | (conv => whnf)) | (refine ⟨by omega, ?_⟩; conv => whnf) | (intro _; conv => whnf))))
        exact X _ _
  have C122 : ∀ (m : Nat) (τ : Sto) (K : KV) (h : Int) (HK : Int → KV), m = (K 7 1).toNat → ClassR τ K h HK tl tx → K 7 0 = n → frC σ τ → P 122 [.inr (41, 0), .inr (0, 0), .inl n, .inl 1, .inl wide, .inl had] [] τ := by
    intro m
    induction m using Nat.strongRecOn with
    | _ m ih =>
      intro τ K h HK hm c1 e1 f1
      have a6 := c1.2.1.2.1
      by_cases q : K 7 1 ≤ 1
      · have X := C146 τ K h HK c1 e1 q f1
        (refine go (t := tb_law) (WPd_mono d) hP 300 [146] ?_; (conv => whnf); (repeat' (first | (refine ⟨fun _ => ?_, fun _ => ?_⟩ <;> first | (exfalso; omega) | (conv => whnf)) | (refine ⟨by omega, ?_⟩; conv => whnf) | (intro _; conv => whnf))))
        refine t_ask_ashes (by omega) c1 ?_
        ((conv => whnf); (repeat' (first | (refine ⟨fun _ => ?_, fun _ => ?_⟩ <;> first | (exfalso; omega) | (conv => whnf)) | (refine ⟨by omega, ?_⟩; conv => whnf) | (intro _; conv => whnf))))
        exact X
      · (refine go (t := tb_law) (WPd_mono d) hP 300 [122] ?_; (conv => whnf); (repeat' (first | (refine ⟨fun _ => ?_, fun _ => ?_⟩ <;> first | (exfalso; omega) | (conv => whnf)) | (refine ⟨by omega, ?_⟩; conv => whnf) | (intro _; conv => whnf))))
        refine t_ask_ashes (by omega) c1 ?_
        ((conv => whnf); (repeat' (first | (refine ⟨fun _ => ?_, fun _ => ?_⟩ <;> first | (exfalso; omega) | (conv => whnf)) | (refine ⟨by omega, ?_⟩; conv => whnf) | (intro _; conv => whnf))))
        refine t_ask_ashes (by omega) c1 ?_
        ((conv => whnf); (repeat' (first | (refine ⟨fun _ => ?_, fun _ => ?_⟩ <;> first | (exfalso; omega) | (conv => whnf)) | (refine ⟨by omega, ?_⟩; conv => whnf) | (intro _; conv => whnf))))
        refine t_X4_removeAsh (by omega) c1 (by omega) (fun e => absurd (show 0 ≤ K 7 1 - 1 ∧ K 7 1 - 1 < K 7 1 by omega) e) (fun _ σ2 c2 f2 => ?_)
        have X := ih (K 7 1 - 1).toNat (by omega) σ2 _ _ _ (by rfl) c2 (show K 7 0 = n from e1) (f1.tr f2)
        ((conv => whnf); (repeat' (first | (refine ⟨fun _ => ?_, fun _ => ?_⟩ <;> first | (exfalso; omega) | (conv => whnf)) | (refine ⟨by omega, ?_⟩; conv => whnf) | (intro _; conv => whnf))))
        exact X
  ((conv => whnf); (repeat' (first | (refine ⟨fun _ => ?_, fun _ => ?_⟩ <;> first | (exfalso; omega) | (conv => whnf)) | (refine ⟨by omega, ?_⟩; conv => whnf) | (intro _; conv => whnf))))
  refine t_ask_ashes (by omega) c3 ?_
  have a6 := c3.2.1.2.1
  have fr3 := (f1.tr f2).tr f3
  ((conv => whnf); (repeat' (first | (refine ⟨fun _ => ?_, fun _ => ?_⟩ <;> first | (exfalso; omega) | (conv => whnf)) | (refine ⟨by omega, ?_⟩; conv => whnf) | (intro _; conv => whnf))))
  · exact C122 _ σ3 _ _ _ rfl c3 e1 fr3
  · refine t_ask_without (by omega) c3 (by omega) (fun w0 hw0 σ4 c4 f4 => ?_)
    have dW := WFK_delA c3.2.1 (x := 0) (by omega)
    have wb0 := cst_b dW hw0
    have wle : 0 ≤ had → 0 ≤ w0 ∧ w0 ≤ had := fun q => cst_le dW ((cst_0 c3.2.1 hhad).1 q) (fun c hc => CS_del_le c3.2.1 (by decide) (by omega) hc) hw0
    ((conv => whnf); (repeat' (first | (refine ⟨fun _ => ?_, fun _ => ?_⟩ <;> first | (exfalso; omega) | (conv => whnf)) | (refine ⟨by omega, ?_⟩; conv => whnf) | (intro _; conv => whnf))))
    refine t_X4_removeAsh (by omega) c4 (by omega) (fun e => absurd (show 0 ≤ (0 : Int) ∧ (0 : Int) < K1 7 1 by omega) e) (fun _ σ5 c5 f5 => ?_)
    ((conv => whnf); (repeat' (first | (refine ⟨fun _ => ?_, fun _ => ?_⟩ <;> first | (exfalso; omega) | (conv => whnf)) | (refine ⟨by omega, ?_⟩; conv => whnf) | (intro _; conv => whnf))))
    refine t_ask_cost (by omega) c5 (fun v6 hv6 σ6 c6 f6 => ?_)
    have e6 := cst_u hv6 hw0
    have C108 : P 108 [.inr (41, 0), .inr (0, 0), .inl n, .inl 1, .inl wide, .inl had, .inl w0] [] σ6 := by
      (refine go (t := tb_law) (WPd_mono d) hP 300 [122] ?_; (conv => whnf); (repeat' (first | (refine ⟨fun _ => ?_, fun _ => ?_⟩ <;> first | (exfalso; omega) | (conv => whnf)) | (refine ⟨by omega, ?_⟩; conv => whnf) | (intro _; conv => whnf))))
      refine t_X6_holds (by omega) c6 (show n = K1 7 0 from e1.symm) (by omega) (fun σ7 c7 f7 => ?_)
      have X := C122 _ σ7 _ _ _ rfl c7 (show K1 7 0 = n from e1) ((((fr3.tr f4).tr f5).tr f6).tr f7)
      ((conv => whnf); (repeat' (first | (refine ⟨fun _ => ?_, fun _ => ?_⟩ <;> first | (exfalso; omega) | (conv => whnf)) | (refine ⟨by omega, ?_⟩; conv => whnf) | (intro _; conv => whnf))))
      (refine hT 6 ?_; exact X)
    ((conv => whnf); (repeat' (first | (refine ⟨fun _ => ?_, fun _ => ?_⟩ <;> first | (exfalso; omega) | (conv => whnf)) | (refine ⟨by omega, ?_⟩; conv => whnf) | (intro _; conv => whnf))))
    all_goals exact C108
end
section
/-! THE CONSTRUCTORS: worlds of cells -/
theorem getL {α : Type} {a b : List α} {i : Nat} {x : α} (h : a[i]? = some x) : (a ++ b)[i]? = some x := by
  rw [List.getElem?_append_left (List.getElem?_eq_some_iff.mp h).1]
  exact h
theorem getR {α : Type} {a b : List α} {i : Nat} {x : α} (h : b[i]? = some x) : (a ++ b)[a.length + i]? = some x := by
  rw [List.getElem?_append_right (by omega), Nat.add_sub_cancel_left]
  exact h
theorem va_PR {D : va_G} {cl : List vw_C} {wr wc : va_W} {H : Heap} (h : va_P D cl (wr ++ wc) H) : va_P D cl wc H := fun k q hk => h _ q (getR hk)
theorem va_PL {D : va_G} {cl : List vw_C} {wr wc : va_W} {H : Heap} (h : va_P D cl (wr ++ wc) H) : va_P D cl wr H := fun k q hk => h _ q (getL hk)
theorem va_DL {A : Nat → Prop} {wr wc : va_W} (h : va_D A (wr ++ wc)) : va_D A wr := ⟨fun i j p q hi hj e => h.1 i j p q (getL hi) (getL hj) e, fun k q hk => h.2 k q (getL hk)⟩
theorem va_DR {A : Nat → Prop} {wr wc : va_W} (h : va_D A (wr ++ wc)) : va_D A wc := ⟨fun i j p q hi hj e => by have := h.1 _ _ p q (getR (a := wr) hi) (getR hj) e; omega, fun k q hk => h.2 _ q (getR hk)⟩
theorem va_freeA {A0 : Nat → Prop} {wr wc : va_W} {H0 H : Heap} {locs : List Loc} (hD : va_D A0 (wr ++ wc)) (hS : va_S A0 H0 H locs) (hA : ∀ q, H0.size ≤ q → A0 q) : ∀ q, va_A wc H.size q → A0 q := by
  intro q h
  rcases h with ⟨k, e, h⟩ | h
  · exact hD.2 _ (q, e) (getR h)
  · exact hA q (Nat.le_trans hS.1 h)
theorem va_joinA {A0 : Nat → Prop} {D : va_G} {cl : List vw_C} {wr wc w1 : va_W} {H H1 : Heap} (hP : va_P D cl (wr ++ wc) H) (hD : va_D A0 (wr ++ wc)) (hk : ∀ q : Nat, q < H.size → ¬ va_A wc H.size q → H1[q]? = H[q]?) (hF : ∀ q, va_A wc H.size q → A0 q) (hP1 : va_P D cl w1 H1) (hD1 : va_D (va_A wc H.size) w1) : va_P D cl (wr ++ w1) H1 ∧ va_D A0 (wr ++ w1) := by
  have apart : ∀ (k : Nat) (q : Nat × va_E), wr[k]? = some q → q.1 < H.size ∧ ¬ va_A wc H.size q.1 := by
    intro k q hq
    have hl := (hP k q (getL hq)).lt
    refine ⟨hl, fun h => ?_⟩
    rcases h with ⟨k2, e, h⟩ | h
    · have := hD.1 k _ q (q.1, e) (getL hq) (getR h) rfl
      have := (List.getElem?_eq_some_iff.mp hq).1
      omega
    · omega
  refine ⟨va_P.app (fun k q hq => ?_) hP1, va_D.app (va_DL hD) (hD1.weaken (fun k q _ h => hF q.1 h)) (fun i j x y hx hy hxy => ?_)⟩
  · obtain ⟨g1, g2⟩ := apart k q hq
    exact (hP k q (getL hq)).kept (hk q.1 g1 g2)
  · exact (apart i x hx).2 (by rw [hxy]; exact hD1.2 j y hy)
theorem tyU {D : va_G} {cl : List vw_C} {tys : List (ClassId × FieldType)} {U : State} {t : FieldType} {c1 c2 : ClassId} (h : va_K D cl tys U) (h1 : (c1, t) ∈ tys) (h2 : (c2, t) ∈ tys) : c1 = c2 := by
  obtain ⟨i, hi⟩ := List.getElem?_of_mem h1
  obtain ⟨j, hj⟩ := List.getElem?_of_mem h2
  have a := (h.2 i _ hi).2
  have b := (h.2 j _ hj).2
  cases t with
  | object C =>
    obtain ⟨_, _, _, _, _, a4⟩ := a
    obtain ⟨_, _, _, _, _, b4⟩ := b
    rw [a4] at b4
    injection b4
  | _ =>
    have e := Eq.trans (Eq.symm a) b
    injection e
theorem vpi {i : Int32} {n : Nat} (h : (decide (i < 0) || decide (n ≤ i.toNatClampNeg)) = false) : vp_in i n := fun q => by
  rw [Bool.or_eq_false_iff] at h
  rcases q with q | q
  · exact absurd q (of_decide_eq_false h.1)
  · exact absurd q (of_decide_eq_false h.2)
def PreK (D : va_G) (sz : Nat) (ws : va_W) (U : State) : Prop := U.heap.size = sz ∧ va_P D vwCl ws U.heap ∧ va_K D vwCl [] U ∧ va_D (fun _ => True) ws
def PostK (D : va_G) (A : Nat → Prop) (ws : va_W) (tys : List (ClassId × FieldType)) (t : State) : Prop := va_P D vwCl ws t.heap ∧ va_K D vwCl tys t ∧ va_D A ws
def noE (_ : State) : Prop := True
theorem noE.moved {u U : State} (_ : u.vm.Alike U.vm) (_ : noE u) : noE U := trivial
abbrev setG : Int → Int := fun j => if j = 0 then 4 else if j = 1 then 5 else if j = 2 then 3 else if j = 3 then 2 else 0
theorem setG_eq : upd (upd (upd (upd (fun _ => 0) (0 : Int32).toNatClampNeg 4) (1 : Int32).toNatClampNeg 5) (2 : Int32).toNatClampNeg 3) (3 : Int32).toNatClampNeg 2 = rowV setG := by
  have e0 : (0 : Int32).toNatClampNeg = 0 := by decide
  have e1 : (1 : Int32).toNatClampNeg = 1 := by decide
  have e2 : (2 : Int32).toNatClampNeg = 2 := by decide
  have e3 : (3 : Int32).toNatClampNeg = 3 := by decide
  rw [e0, e1, e2, e3]
  funext a
  unfold upd rowV setG
  dsimp only
  by_cases h3 : a = 3
  · subst h3; rfl
  · by_cases h2 : a = 2
    · subst h2; rfl
    · by_cases h1 : a = 1
      · subst h1; rfl
      · by_cases h0 : a = 0
        · subst h0; rfl
        · rw [if_neg h3, if_neg h2, if_neg h1, if_neg h0, if_neg (by omega), if_neg (by omega), if_neg (by omega), if_neg (by omega)]
          rfl
abbrev coreW (h0 : Nat) (r : Nat → Nat) (cI : ClassId) : va_W := [(h0, .inr (0, [.ref (r 0), .ref (r 1), .ref (r 2), .ref (r 3), .ref (r 4), .ref (r 5), .ref (r 6), .int 0, .int 0])), (r 0, .inl (cI, 50, .inl (fun _ => 0))), (r 1, .inl (cI, 50, .inl (fun _ => 0))), (r 2, .inl (cI, 50, .inl (fun _ => 0))), (r 3, .inl (cI, 6, .inl (fun _ => 0))), (r 4, .inl (cI, 6, .inl (fun _ => 0))), (r 5, .inl (cI, 6, .inl (fun _ => 0))), (r 6, .inl (cI, 4, .inl (rowV setG)))]
set_option maxRecDepth 100000 in
theorem kw_38 : Jvm.Cond.methodLink RX0 3 objectInit ∈ BG := bg_of 38 rfl rfl
set_option maxRecDepth 100000 in
theorem kw_39 : Jvm.Cond.fieldLink RX0 9 "VarveClock$Core" "thickness" "[I" ∈ BG := bg_of 39 rfl rfl
set_option maxRecDepth 100000 in
theorem kw_40 : Jvm.Cond.fieldLink RX0 15 "VarveClock$Core" "kind" "[I" ∈ BG := bg_of 40 rfl rfl
set_option maxRecDepth 100000 in
theorem kw_42 : Jvm.Cond.fieldLink RX0 18 "VarveClock$Core" "missing" "[I" ∈ BG := bg_of 42 rfl rfl
set_option maxRecDepth 100000 in
theorem kw_44 : Jvm.Cond.fieldLink RX0 21 "VarveClock$Core" "place" "[I" ∈ BG := bg_of 44 rfl rfl
set_option maxRecDepth 100000 in
theorem kw_47 : Jvm.Cond.fieldLink RX0 24 "VarveClock$Core" "ashAge" "[I" ∈ BG := bg_of 47 rfl rfl
set_option maxRecDepth 100000 in
theorem kw_49 : Jvm.Cond.fieldLink RX0 27 "VarveClock$Core" "uncertainty" "[I" ∈ BG := bg_of 49 rfl rfl
set_option maxRecDepth 100000 in
theorem kw_50 : Jvm.Cond.fieldLink RX0 30 "VarveClock$Core" "setting" "[I" ∈ BG := bg_of 50 rfl rfl
set_option maxRecDepth 100000 in
theorem kw_53 : Jvm.Cond.fieldLink RX0 33 "VarveClock$Core" "layers" "I" ∈ BG := bg_of 53 rfl rfl
set_option maxRecDepth 100000 in
theorem kw_56 : Jvm.Cond.fieldLink RX0 37 "VarveClock$Core" "ashes" "I" ∈ BG := bg_of 56 rfl rfl
set_option maxRecDepth 100000 in
theorem kw_oii : Jvm.Cond.instanceMethod objectInit ∈ BG := bg_of 31 rfl rfl
set_option maxRecDepth 100000 in
theorem kw_oic : Jvm.Cond.code objectInit ⟨#[0xb1]⟩ 1 none ∈ BG := bg_of 32 rfl rfl
set_option maxRecDepth 100000 in
theorem kw_arrI : Jvm.Cond.arrayClass .int ∈ BG := bg_of 78 rfl rfl
set_option maxRecDepth 100000 in
theorem kw_arrC : Jvm.Cond.arrayClass .char ∈ BG := bg_of 120 rfl rfl
theorem d_X0_init_0 : decode cX0_init 0 = .ok (.aload_n 0, 1) := by decide +kernel
theorem d_X0_init_1 : decode cX0_init 1 = .ok (.invokespecial 3, 3) := by decide +kernel
theorem d_X0_init_4 : decode cX0_init 4 = .ok (.aload_n 0, 1) := by decide +kernel
theorem d_X0_init_5 : decode cX0_init 5 = .ok (.bipush 50, 2) := by decide +kernel
theorem d_X0_init_7 : decode cX0_init 7 = .ok (.newarray .int, 2) := by decide +kernel
theorem d_X0_init_9 : decode cX0_init 9 = .ok (.putfield 9, 3) := by decide +kernel
theorem d_X0_init_12 : decode cX0_init 12 = .ok (.aload_n 0, 1) := by decide +kernel
theorem d_X0_init_13 : decode cX0_init 13 = .ok (.bipush 50, 2) := by decide +kernel
theorem d_X0_init_15 : decode cX0_init 15 = .ok (.newarray .int, 2) := by decide +kernel
theorem d_X0_init_17 : decode cX0_init 17 = .ok (.putfield 15, 3) := by decide +kernel
theorem d_X0_init_20 : decode cX0_init 20 = .ok (.aload_n 0, 1) := by decide +kernel
theorem d_X0_init_21 : decode cX0_init 21 = .ok (.bipush 50, 2) := by decide +kernel
theorem d_X0_init_23 : decode cX0_init 23 = .ok (.newarray .int, 2) := by decide +kernel
theorem d_X0_init_25 : decode cX0_init 25 = .ok (.putfield 18, 3) := by decide +kernel
theorem d_X0_init_28 : decode cX0_init 28 = .ok (.aload_n 0, 1) := by decide +kernel
theorem d_X0_init_29 : decode cX0_init 29 = .ok (.bipush 6, 2) := by decide +kernel
theorem d_X0_init_31 : decode cX0_init 31 = .ok (.newarray .int, 2) := by decide +kernel
theorem d_X0_init_33 : decode cX0_init 33 = .ok (.putfield 21, 3) := by decide +kernel
theorem d_X0_init_36 : decode cX0_init 36 = .ok (.aload_n 0, 1) := by decide +kernel
theorem d_X0_init_37 : decode cX0_init 37 = .ok (.bipush 6, 2) := by decide +kernel
theorem d_X0_init_39 : decode cX0_init 39 = .ok (.newarray .int, 2) := by decide +kernel
theorem d_X0_init_41 : decode cX0_init 41 = .ok (.putfield 24, 3) := by decide +kernel
theorem d_X0_init_44 : decode cX0_init 44 = .ok (.aload_n 0, 1) := by decide +kernel
theorem d_X0_init_45 : decode cX0_init 45 = .ok (.bipush 6, 2) := by decide +kernel
theorem d_X0_init_47 : decode cX0_init 47 = .ok (.newarray .int, 2) := by decide +kernel
theorem d_X0_init_49 : decode cX0_init 49 = .ok (.putfield 27, 3) := by decide +kernel
theorem d_X0_init_52 : decode cX0_init 52 = .ok (.aload_n 0, 1) := by decide +kernel
theorem d_X0_init_53 : decode cX0_init 53 = .ok (.iconst 4, 1) := by decide +kernel
theorem d_X0_init_54 : decode cX0_init 54 = .ok (.newarray .int, 2) := by decide +kernel
theorem d_X0_init_56 : decode cX0_init 56 = .ok (.putfield 30, 3) := by decide +kernel
theorem d_X0_init_59 : decode cX0_init 59 = .ok (.aload_n 0, 1) := by decide +kernel
theorem d_X0_init_60 : decode cX0_init 60 = .ok (.getfield 30, 3) := by decide +kernel
theorem d_X0_init_63 : decode cX0_init 63 = .ok (.iconst 0, 1) := by decide +kernel
theorem d_X0_init_64 : decode cX0_init 64 = .ok (.iconst 4, 1) := by decide +kernel
theorem d_X0_init_65 : decode cX0_init 65 = .ok (.iastore, 1) := by decide +kernel
theorem d_X0_init_66 : decode cX0_init 66 = .ok (.aload_n 0, 1) := by decide +kernel
theorem d_X0_init_67 : decode cX0_init 67 = .ok (.getfield 30, 3) := by decide +kernel
theorem d_X0_init_70 : decode cX0_init 70 = .ok (.iconst 1, 1) := by decide +kernel
theorem d_X0_init_71 : decode cX0_init 71 = .ok (.iconst 5, 1) := by decide +kernel
theorem d_X0_init_72 : decode cX0_init 72 = .ok (.iastore, 1) := by decide +kernel
theorem d_X0_init_73 : decode cX0_init 73 = .ok (.aload_n 0, 1) := by decide +kernel
theorem d_X0_init_74 : decode cX0_init 74 = .ok (.getfield 30, 3) := by decide +kernel
theorem d_X0_init_77 : decode cX0_init 77 = .ok (.iconst 2, 1) := by decide +kernel
theorem d_X0_init_78 : decode cX0_init 78 = .ok (.iconst 3, 1) := by decide +kernel
theorem d_X0_init_79 : decode cX0_init 79 = .ok (.iastore, 1) := by decide +kernel
theorem d_X0_init_80 : decode cX0_init 80 = .ok (.aload_n 0, 1) := by decide +kernel
theorem d_X0_init_81 : decode cX0_init 81 = .ok (.getfield 30, 3) := by decide +kernel
theorem d_X0_init_84 : decode cX0_init 84 = .ok (.iconst 3, 1) := by decide +kernel
theorem d_X0_init_85 : decode cX0_init 85 = .ok (.iconst 2, 1) := by decide +kernel
theorem d_X0_init_86 : decode cX0_init 86 = .ok (.iastore, 1) := by decide +kernel
theorem d_X0_init_87 : decode cX0_init 87 = .ok (.aload_n 0, 1) := by decide +kernel
theorem d_X0_init_88 : decode cX0_init 88 = .ok (.iconst 0, 1) := by decide +kernel
theorem d_X0_init_89 : decode cX0_init 89 = .ok (.putfield 33, 3) := by decide +kernel
theorem d_X0_init_92 : decode cX0_init 92 = .ok (.aload_n 0, 1) := by decide +kernel
theorem d_X0_init_93 : decode cX0_init 93 = .ok (.iconst 0, 1) := by decide +kernel
theorem d_X0_init_94 : decode cX0_init 94 = .ok (.putfield 37, 3) := by decide +kernel
theorem d_X0_init_97 : decode cX0_init 97 = .ok (.return_, 1) := by decide +kernel
set_option maxHeartbeats 8000000 in
set_option maxRecDepth 100000 in
theorem k_X0_init (l : Launch) (D : va_G) (h0 : Nat) (sz : Nat) : Met l yX0_init (.code yX0_init cX0_init 1 none :: BG) ({ frames := 1, cells := 7, slots := 172, locals := 12 }) (va_Pc [.ref h0] (fun U => PreK D sz [(h0, .inr (0, [.null, .null, .null, .null, .null, .null, .null, .int 0, .int 0]))] U ∧ noE U)) (va_Qv (fun _ : (Nat → Nat) × ClassId => True) (fun u t => PostK D (va_A [(h0, .inr (0, [.null, .null, .null, .null, .null, .null, .null, .int 0, .int 0]))] sz) (coreW h0 u.1 u.2) ([(u.2, .int)]) t) (va_A [(h0, .inr (0, [.null, .null, .null, .null, .null, .null, .null, .int 0, .int 0]))] sz)) 7 172 (va_A [(h0, .inr (0, [.null, .null, .null, .null, .null, .null, .null, .int 0, .int 0]))] sz) := by
  refine Met.ofW (cc := cX0_init) (maxL := 1) (ret := none) (by decide) rfl ?_
  intro p e s m args below meth c s₁ B hml hv
  obtain ⟨rfl, ⟨hsz, hP, hK, hD0⟩, hE⟩ := hv
  have hx := B.exec
  have hb := B.bytes
  have hr := B.returns
  have hts : ∀ w ∈ BG, w.before _ s = true := fun w hw => atoms_spec B.pre w (List.mem_cons_of_mem _ hw)
  have hown : s.vm.findClass RX0 = some m.cls := findClass_of_methodNamed B.named
  have hlocks := B.notSynchronized
  have hin : meth.name = "<init>" := (name_of_methodNamed B.named B.method).1
  subst hsz
  have hD := hD0.self (sz := s.heap.size)
  generalize hAe : va_A [(h0, .inr (0, [.null, .null, .null, .null, .null, .null, .null, .int 0, .int 0]))] s.heap.size = A at hD ⊢
  have hA : ∀ q : Nat, s.heap.size ≤ q → A q := fun q h => by rw [← hAe]; exact Or.inr h
  have hS : va_S A s.heap s.heap [] := va_S.rf
  have hl := lv_entry ([.ref h0]) (n := 1) (Nat.le_of_ble_eq_true rfl)
  rw [lg_entry_eq]
  generalize (lg_sl ([.ref h0]) ++ List.replicate (1 - (lg_sl ([.ref h0])).length) Slot.unset).toArray = ls at hl ⊢
  have hl : lv_has ls 1 [(0, .ref h0)] := hl
  have hP : va_P D vwCl [(h0, .inr (0, [.null, .null, .null, .null, .null, .null, .null, .int 0, .int 0]))] s.heap := hP
  refine lv_aload_n hx hb d_X0_init_0 rfl (lv_at hl 0 rfl) ?_
  refine W.objInit hx hb hown (hts _ kw_38) (hts _ kw_oii) (hts _ kw_oic) rfl (by rw [hml]; exact hl.1) rfl d_X0_init_1 (Nat.le_of_ble_eq_true rfl) (Nat.le_of_ble_eq_true rfl) ?_
  refine W.eq (g2 := F0 m 4 ls []) rfl ?_
  refine lv_aload_n hx hb d_X0_init_4 rfl (lv_at hl 0 rfl) ?_
  refine lv_bipush (v := 50) hx hb d_X0_init_5 (by decide) ?_
  refine va_newa (atype := .int) (ty := .int) (N' := 50) (a0 := (50, .inl (fun _ => 0))) hx hb (hts _ kw_arrI) rfl hK hP hD hS hA (fun cA => rfl) (by decide) (by decide) (Nat.le_of_ble_eq_true rfl) (Nat.le_of_ble_eq_true rfl) (Nat.le_of_ble_eq_true rfl) d_X0_init_7 (fun q1 cI H hK hP hD hS => ?_)
  refine W.widen (k := 1) (n := 50) (Nat.le_of_ble_eq_true rfl) (Nat.le_of_ble_eq_true rfl) ?_
  have hK : va_K D vwCl [(cI, .int)] s := hK
  have hP : va_P D vwCl ([(h0, .inr (0, [.null, .null, .null, .null, .null, .null, .null, .int 0, .int 0])), (q1, .inl (cI, 50, .inl (fun _ => 0)))]) H := hP
  have hD : va_D A ([(h0, .inr (0, [.null, .null, .null, .null, .null, .null, .null, .int 0, .int 0])), (q1, .inl (cI, 50, .inl (fun _ => 0)))]) := hD
  refine va_putF (D := D) (ci := 0) (v := .ref q1) (ty := .array .int) (C := RX0) (T := TX0) (N := 9) hx hb hts uw0 tyX0 tyX0_ok nmX0 hown hK hP hD hS 0 rfl rfl 0 (by decide) (hts _ kw_39) (fun _ h9 => h9) rfl hin rfl (by decide +kernel) rfl rfl (Nat.le_of_ble_eq_true rfl) d_X0_init_9 (fun H locs hP hD hS => ?_)
  have hP : va_P D vwCl ([(h0, .inr (0, [.ref q1, .null, .null, .null, .null, .null, .null, .int 0, .int 0])), (q1, .inl (cI, 50, .inl (fun _ => 0)))]) H := hP
  have hD : va_D A ([(h0, .inr (0, [.ref q1, .null, .null, .null, .null, .null, .null, .int 0, .int 0])), (q1, .inl (cI, 50, .inl (fun _ => 0)))]) := hD
  refine lv_aload_n hx hb d_X0_init_12 rfl (lv_at hl 0 rfl) ?_
  refine lv_bipush (v := 50) hx hb d_X0_init_13 (by decide) ?_
  refine va_newa (atype := .int) (ty := .int) (N' := 50) (a0 := (50, .inl (fun _ => 0))) hx hb (hts _ kw_arrI) rfl hK hP hD hS hA (fun cA => rfl) (by decide) (by decide) (Nat.le_of_ble_eq_true rfl) (Nat.le_of_ble_eq_true rfl) (Nat.le_of_ble_eq_true rfl) d_X0_init_15 (fun q2 cA H hK hP hD hS => ?_)
  refine W.widen (k := 2) (n := 100) (Nat.le_of_ble_eq_true rfl) (Nat.le_of_ble_eq_true rfl) ?_
  have hK : va_K D vwCl [(cI, .int), (cA, .int)] s := hK
  have ey : cI = cA := tyU hK (t := .int) (by simp) (by simp)
  subst ey
  have hK := hK.sub (tys' := [(cI, .int)]) [0] rfl
  have hP : va_P D vwCl ([(h0, .inr (0, [.ref q1, .null, .null, .null, .null, .null, .null, .int 0, .int 0])), (q1, .inl (cI, 50, .inl (fun _ => 0))), (q2, .inl (cI, 50, .inl (fun _ => 0)))]) H := hP
  have hD : va_D A ([(h0, .inr (0, [.ref q1, .null, .null, .null, .null, .null, .null, .int 0, .int 0])), (q1, .inl (cI, 50, .inl (fun _ => 0))), (q2, .inl (cI, 50, .inl (fun _ => 0)))]) := hD
  refine va_putF (D := D) (ci := 0) (v := .ref q2) (ty := .array .int) (C := RX0) (T := TX0) (N := 9) hx hb hts uw0 tyX0 tyX0_ok nmX0 hown hK hP hD hS 0 rfl rfl 1 (by decide) (hts _ kw_40) (fun _ h9 => h9) rfl hin rfl (by decide +kernel) rfl rfl (Nat.le_of_ble_eq_true rfl) d_X0_init_17 (fun H locs hP hD hS => ?_)
  have hP : va_P D vwCl ([(h0, .inr (0, [.ref q1, .ref q2, .null, .null, .null, .null, .null, .int 0, .int 0])), (q1, .inl (cI, 50, .inl (fun _ => 0))), (q2, .inl (cI, 50, .inl (fun _ => 0)))]) H := hP
  have hD : va_D A ([(h0, .inr (0, [.ref q1, .ref q2, .null, .null, .null, .null, .null, .int 0, .int 0])), (q1, .inl (cI, 50, .inl (fun _ => 0))), (q2, .inl (cI, 50, .inl (fun _ => 0)))]) := hD
  refine lv_aload_n hx hb d_X0_init_20 rfl (lv_at hl 0 rfl) ?_
  refine lv_bipush (v := 50) hx hb d_X0_init_21 (by decide) ?_
  refine va_newa (atype := .int) (ty := .int) (N' := 50) (a0 := (50, .inl (fun _ => 0))) hx hb (hts _ kw_arrI) rfl hK hP hD hS hA (fun cA => rfl) (by decide) (by decide) (Nat.le_of_ble_eq_true rfl) (Nat.le_of_ble_eq_true rfl) (Nat.le_of_ble_eq_true rfl) d_X0_init_23 (fun q3 cA H hK hP hD hS => ?_)
  refine W.widen (k := 3) (n := 150) (Nat.le_of_ble_eq_true rfl) (Nat.le_of_ble_eq_true rfl) ?_
  have hK : va_K D vwCl [(cI, .int), (cA, .int)] s := hK
  have ey : cI = cA := tyU hK (t := .int) (by simp) (by simp)
  subst ey
  have hK := hK.sub (tys' := [(cI, .int)]) [0] rfl
  have hP : va_P D vwCl ([(h0, .inr (0, [.ref q1, .ref q2, .null, .null, .null, .null, .null, .int 0, .int 0])), (q1, .inl (cI, 50, .inl (fun _ => 0))), (q2, .inl (cI, 50, .inl (fun _ => 0))), (q3, .inl (cI, 50, .inl (fun _ => 0)))]) H := hP
  have hD : va_D A ([(h0, .inr (0, [.ref q1, .ref q2, .null, .null, .null, .null, .null, .int 0, .int 0])), (q1, .inl (cI, 50, .inl (fun _ => 0))), (q2, .inl (cI, 50, .inl (fun _ => 0))), (q3, .inl (cI, 50, .inl (fun _ => 0)))]) := hD
  refine va_putF (D := D) (ci := 0) (v := .ref q3) (ty := .array .int) (C := RX0) (T := TX0) (N := 9) hx hb hts uw0 tyX0 tyX0_ok nmX0 hown hK hP hD hS 0 rfl rfl 2 (by decide) (hts _ kw_42) (fun _ h9 => h9) rfl hin rfl (by decide +kernel) rfl rfl (Nat.le_of_ble_eq_true rfl) d_X0_init_25 (fun H locs hP hD hS => ?_)
  have hP : va_P D vwCl ([(h0, .inr (0, [.ref q1, .ref q2, .ref q3, .null, .null, .null, .null, .int 0, .int 0])), (q1, .inl (cI, 50, .inl (fun _ => 0))), (q2, .inl (cI, 50, .inl (fun _ => 0))), (q3, .inl (cI, 50, .inl (fun _ => 0)))]) H := hP
  have hD : va_D A ([(h0, .inr (0, [.ref q1, .ref q2, .ref q3, .null, .null, .null, .null, .int 0, .int 0])), (q1, .inl (cI, 50, .inl (fun _ => 0))), (q2, .inl (cI, 50, .inl (fun _ => 0))), (q3, .inl (cI, 50, .inl (fun _ => 0)))]) := hD
  refine lv_aload_n hx hb d_X0_init_28 rfl (lv_at hl 0 rfl) ?_
  refine lv_bipush (v := 6) hx hb d_X0_init_29 (by decide) ?_
  refine va_newa (atype := .int) (ty := .int) (N' := 6) (a0 := (6, .inl (fun _ => 0))) hx hb (hts _ kw_arrI) rfl hK hP hD hS hA (fun cA => rfl) (by decide) (by decide) (Nat.le_of_ble_eq_true rfl) (Nat.le_of_ble_eq_true rfl) (Nat.le_of_ble_eq_true rfl) d_X0_init_31 (fun q4 cA H hK hP hD hS => ?_)
  refine W.widen (k := 4) (n := 156) (Nat.le_of_ble_eq_true rfl) (Nat.le_of_ble_eq_true rfl) ?_
  have hK : va_K D vwCl [(cI, .int), (cA, .int)] s := hK
  have ey : cI = cA := tyU hK (t := .int) (by simp) (by simp)
  subst ey
  have hK := hK.sub (tys' := [(cI, .int)]) [0] rfl
  have hP : va_P D vwCl ([(h0, .inr (0, [.ref q1, .ref q2, .ref q3, .null, .null, .null, .null, .int 0, .int 0])), (q1, .inl (cI, 50, .inl (fun _ => 0))), (q2, .inl (cI, 50, .inl (fun _ => 0))), (q3, .inl (cI, 50, .inl (fun _ => 0))), (q4, .inl (cI, 6, .inl (fun _ => 0)))]) H := hP
  have hD : va_D A ([(h0, .inr (0, [.ref q1, .ref q2, .ref q3, .null, .null, .null, .null, .int 0, .int 0])), (q1, .inl (cI, 50, .inl (fun _ => 0))), (q2, .inl (cI, 50, .inl (fun _ => 0))), (q3, .inl (cI, 50, .inl (fun _ => 0))), (q4, .inl (cI, 6, .inl (fun _ => 0)))]) := hD
  refine va_putF (D := D) (ci := 0) (v := .ref q4) (ty := .array .int) (C := RX0) (T := TX0) (N := 9) hx hb hts uw0 tyX0 tyX0_ok nmX0 hown hK hP hD hS 0 rfl rfl 3 (by decide) (hts _ kw_44) (fun _ h9 => h9) rfl hin rfl (by decide +kernel) rfl rfl (Nat.le_of_ble_eq_true rfl) d_X0_init_33 (fun H locs hP hD hS => ?_)
  have hP : va_P D vwCl ([(h0, .inr (0, [.ref q1, .ref q2, .ref q3, .ref q4, .null, .null, .null, .int 0, .int 0])), (q1, .inl (cI, 50, .inl (fun _ => 0))), (q2, .inl (cI, 50, .inl (fun _ => 0))), (q3, .inl (cI, 50, .inl (fun _ => 0))), (q4, .inl (cI, 6, .inl (fun _ => 0)))]) H := hP
  have hD : va_D A ([(h0, .inr (0, [.ref q1, .ref q2, .ref q3, .ref q4, .null, .null, .null, .int 0, .int 0])), (q1, .inl (cI, 50, .inl (fun _ => 0))), (q2, .inl (cI, 50, .inl (fun _ => 0))), (q3, .inl (cI, 50, .inl (fun _ => 0))), (q4, .inl (cI, 6, .inl (fun _ => 0)))]) := hD
  refine lv_aload_n hx hb d_X0_init_36 rfl (lv_at hl 0 rfl) ?_
  refine lv_bipush (v := 6) hx hb d_X0_init_37 (by decide) ?_
  refine va_newa (atype := .int) (ty := .int) (N' := 6) (a0 := (6, .inl (fun _ => 0))) hx hb (hts _ kw_arrI) rfl hK hP hD hS hA (fun cA => rfl) (by decide) (by decide) (Nat.le_of_ble_eq_true rfl) (Nat.le_of_ble_eq_true rfl) (Nat.le_of_ble_eq_true rfl) d_X0_init_39 (fun q5 cA H hK hP hD hS => ?_)
  refine W.widen (k := 5) (n := 162) (Nat.le_of_ble_eq_true rfl) (Nat.le_of_ble_eq_true rfl) ?_
  have hK : va_K D vwCl [(cI, .int), (cA, .int)] s := hK
  have ey : cI = cA := tyU hK (t := .int) (by simp) (by simp)
  subst ey
  have hK := hK.sub (tys' := [(cI, .int)]) [0] rfl
  have hP : va_P D vwCl ([(h0, .inr (0, [.ref q1, .ref q2, .ref q3, .ref q4, .null, .null, .null, .int 0, .int 0])), (q1, .inl (cI, 50, .inl (fun _ => 0))), (q2, .inl (cI, 50, .inl (fun _ => 0))), (q3, .inl (cI, 50, .inl (fun _ => 0))), (q4, .inl (cI, 6, .inl (fun _ => 0))), (q5, .inl (cI, 6, .inl (fun _ => 0)))]) H := hP
  have hD : va_D A ([(h0, .inr (0, [.ref q1, .ref q2, .ref q3, .ref q4, .null, .null, .null, .int 0, .int 0])), (q1, .inl (cI, 50, .inl (fun _ => 0))), (q2, .inl (cI, 50, .inl (fun _ => 0))), (q3, .inl (cI, 50, .inl (fun _ => 0))), (q4, .inl (cI, 6, .inl (fun _ => 0))), (q5, .inl (cI, 6, .inl (fun _ => 0)))]) := hD
  refine va_putF (D := D) (ci := 0) (v := .ref q5) (ty := .array .int) (C := RX0) (T := TX0) (N := 9) hx hb hts uw0 tyX0 tyX0_ok nmX0 hown hK hP hD hS 0 rfl rfl 4 (by decide) (hts _ kw_47) (fun _ h9 => h9) rfl hin rfl (by decide +kernel) rfl rfl (Nat.le_of_ble_eq_true rfl) d_X0_init_41 (fun H locs hP hD hS => ?_)
  have hP : va_P D vwCl ([(h0, .inr (0, [.ref q1, .ref q2, .ref q3, .ref q4, .ref q5, .null, .null, .int 0, .int 0])), (q1, .inl (cI, 50, .inl (fun _ => 0))), (q2, .inl (cI, 50, .inl (fun _ => 0))), (q3, .inl (cI, 50, .inl (fun _ => 0))), (q4, .inl (cI, 6, .inl (fun _ => 0))), (q5, .inl (cI, 6, .inl (fun _ => 0)))]) H := hP
  have hD : va_D A ([(h0, .inr (0, [.ref q1, .ref q2, .ref q3, .ref q4, .ref q5, .null, .null, .int 0, .int 0])), (q1, .inl (cI, 50, .inl (fun _ => 0))), (q2, .inl (cI, 50, .inl (fun _ => 0))), (q3, .inl (cI, 50, .inl (fun _ => 0))), (q4, .inl (cI, 6, .inl (fun _ => 0))), (q5, .inl (cI, 6, .inl (fun _ => 0)))]) := hD
  refine lv_aload_n hx hb d_X0_init_44 rfl (lv_at hl 0 rfl) ?_
  refine lv_bipush (v := 6) hx hb d_X0_init_45 (by decide) ?_
  refine va_newa (atype := .int) (ty := .int) (N' := 6) (a0 := (6, .inl (fun _ => 0))) hx hb (hts _ kw_arrI) rfl hK hP hD hS hA (fun cA => rfl) (by decide) (by decide) (Nat.le_of_ble_eq_true rfl) (Nat.le_of_ble_eq_true rfl) (Nat.le_of_ble_eq_true rfl) d_X0_init_47 (fun q6 cA H hK hP hD hS => ?_)
  refine W.widen (k := 6) (n := 168) (Nat.le_of_ble_eq_true rfl) (Nat.le_of_ble_eq_true rfl) ?_
  have hK : va_K D vwCl [(cI, .int), (cA, .int)] s := hK
  have ey : cI = cA := tyU hK (t := .int) (by simp) (by simp)
  subst ey
  have hK := hK.sub (tys' := [(cI, .int)]) [0] rfl
  have hP : va_P D vwCl ([(h0, .inr (0, [.ref q1, .ref q2, .ref q3, .ref q4, .ref q5, .null, .null, .int 0, .int 0])), (q1, .inl (cI, 50, .inl (fun _ => 0))), (q2, .inl (cI, 50, .inl (fun _ => 0))), (q3, .inl (cI, 50, .inl (fun _ => 0))), (q4, .inl (cI, 6, .inl (fun _ => 0))), (q5, .inl (cI, 6, .inl (fun _ => 0))), (q6, .inl (cI, 6, .inl (fun _ => 0)))]) H := hP
  have hD : va_D A ([(h0, .inr (0, [.ref q1, .ref q2, .ref q3, .ref q4, .ref q5, .null, .null, .int 0, .int 0])), (q1, .inl (cI, 50, .inl (fun _ => 0))), (q2, .inl (cI, 50, .inl (fun _ => 0))), (q3, .inl (cI, 50, .inl (fun _ => 0))), (q4, .inl (cI, 6, .inl (fun _ => 0))), (q5, .inl (cI, 6, .inl (fun _ => 0))), (q6, .inl (cI, 6, .inl (fun _ => 0)))]) := hD
  refine va_putF (D := D) (ci := 0) (v := .ref q6) (ty := .array .int) (C := RX0) (T := TX0) (N := 9) hx hb hts uw0 tyX0 tyX0_ok nmX0 hown hK hP hD hS 0 rfl rfl 5 (by decide) (hts _ kw_49) (fun _ h9 => h9) rfl hin rfl (by decide +kernel) rfl rfl (Nat.le_of_ble_eq_true rfl) d_X0_init_49 (fun H locs hP hD hS => ?_)
  have hP : va_P D vwCl ([(h0, .inr (0, [.ref q1, .ref q2, .ref q3, .ref q4, .ref q5, .ref q6, .null, .int 0, .int 0])), (q1, .inl (cI, 50, .inl (fun _ => 0))), (q2, .inl (cI, 50, .inl (fun _ => 0))), (q3, .inl (cI, 50, .inl (fun _ => 0))), (q4, .inl (cI, 6, .inl (fun _ => 0))), (q5, .inl (cI, 6, .inl (fun _ => 0))), (q6, .inl (cI, 6, .inl (fun _ => 0)))]) H := hP
  have hD : va_D A ([(h0, .inr (0, [.ref q1, .ref q2, .ref q3, .ref q4, .ref q5, .ref q6, .null, .int 0, .int 0])), (q1, .inl (cI, 50, .inl (fun _ => 0))), (q2, .inl (cI, 50, .inl (fun _ => 0))), (q3, .inl (cI, 50, .inl (fun _ => 0))), (q4, .inl (cI, 6, .inl (fun _ => 0))), (q5, .inl (cI, 6, .inl (fun _ => 0))), (q6, .inl (cI, 6, .inl (fun _ => 0)))]) := hD
  refine lv_aload_n hx hb d_X0_init_52 rfl (lv_at hl 0 rfl) ?_
  refine lv_iconst (v := 4) hx hb d_X0_init_53 (by decide) ?_
  refine va_newa (atype := .int) (ty := .int) (N' := 4) (a0 := (4, .inl (fun _ => 0))) hx hb (hts _ kw_arrI) rfl hK hP hD hS hA (fun cA => rfl) (by decide) (by decide) (Nat.le_of_ble_eq_true rfl) (Nat.le_of_ble_eq_true rfl) (Nat.le_of_ble_eq_true rfl) d_X0_init_54 (fun q7 cA H hK hP hD hS => ?_)
  refine W.widen (k := 7) (n := 172) (Nat.le_of_ble_eq_true rfl) (Nat.le_of_ble_eq_true rfl) ?_
  have hK : va_K D vwCl [(cI, .int), (cA, .int)] s := hK
  have ey : cI = cA := tyU hK (t := .int) (by simp) (by simp)
  subst ey
  have hK := hK.sub (tys' := [(cI, .int)]) [0] rfl
  have hP : va_P D vwCl ([(h0, .inr (0, [.ref q1, .ref q2, .ref q3, .ref q4, .ref q5, .ref q6, .null, .int 0, .int 0])), (q1, .inl (cI, 50, .inl (fun _ => 0))), (q2, .inl (cI, 50, .inl (fun _ => 0))), (q3, .inl (cI, 50, .inl (fun _ => 0))), (q4, .inl (cI, 6, .inl (fun _ => 0))), (q5, .inl (cI, 6, .inl (fun _ => 0))), (q6, .inl (cI, 6, .inl (fun _ => 0))), (q7, .inl (cI, 4, .inl (fun _ => 0)))]) H := hP
  have hD : va_D A ([(h0, .inr (0, [.ref q1, .ref q2, .ref q3, .ref q4, .ref q5, .ref q6, .null, .int 0, .int 0])), (q1, .inl (cI, 50, .inl (fun _ => 0))), (q2, .inl (cI, 50, .inl (fun _ => 0))), (q3, .inl (cI, 50, .inl (fun _ => 0))), (q4, .inl (cI, 6, .inl (fun _ => 0))), (q5, .inl (cI, 6, .inl (fun _ => 0))), (q6, .inl (cI, 6, .inl (fun _ => 0))), (q7, .inl (cI, 4, .inl (fun _ => 0)))]) := hD
  refine va_putF (D := D) (ci := 0) (v := .ref q7) (ty := .array .int) (C := RX0) (T := TX0) (N := 9) hx hb hts uw0 tyX0 tyX0_ok nmX0 hown hK hP hD hS 0 rfl rfl 6 (by decide) (hts _ kw_50) (fun _ h9 => h9) rfl hin rfl (by decide +kernel) rfl rfl (Nat.le_of_ble_eq_true rfl) d_X0_init_56 (fun H locs hP hD hS => ?_)
  have hP : va_P D vwCl ([(h0, .inr (0, [.ref q1, .ref q2, .ref q3, .ref q4, .ref q5, .ref q6, .ref q7, .int 0, .int 0])), (q1, .inl (cI, 50, .inl (fun _ => 0))), (q2, .inl (cI, 50, .inl (fun _ => 0))), (q3, .inl (cI, 50, .inl (fun _ => 0))), (q4, .inl (cI, 6, .inl (fun _ => 0))), (q5, .inl (cI, 6, .inl (fun _ => 0))), (q6, .inl (cI, 6, .inl (fun _ => 0))), (q7, .inl (cI, 4, .inl (fun _ => 0)))]) H := hP
  have hD : va_D A ([(h0, .inr (0, [.ref q1, .ref q2, .ref q3, .ref q4, .ref q5, .ref q6, .ref q7, .int 0, .int 0])), (q1, .inl (cI, 50, .inl (fun _ => 0))), (q2, .inl (cI, 50, .inl (fun _ => 0))), (q3, .inl (cI, 50, .inl (fun _ => 0))), (q4, .inl (cI, 6, .inl (fun _ => 0))), (q5, .inl (cI, 6, .inl (fun _ => 0))), (q6, .inl (cI, 6, .inl (fun _ => 0))), (q7, .inl (cI, 4, .inl (fun _ => 0)))]) := hD
  refine lv_aload_n hx hb d_X0_init_59 rfl (lv_at hl 0 rfl) ?_
  refine va_get (ci := 0) (v := .ref q7) (C := RX0) (T := TX0) (N := 9) hx hb hts uw0 hown hK hP 0 rfl rfl 6 (by decide) (hts _ kw_50) (fun _ h9 => h9) rfl d_X0_init_60 ?_
  refine lv_iconst (v := 0) hx hb d_X0_init_63 (by decide) ?_
  refine lv_iconst (v := 4) hx hb d_X0_init_64 (by decide) ?_
  refine va_iast hx hb hK hP hD hS 7 0 rfl rfl (vpi (by decide)) d_X0_init_65 (fun H locs hP hD hS => ?_)
  have hP : va_P D vwCl ([(h0, .inr (0, [.ref q1, .ref q2, .ref q3, .ref q4, .ref q5, .ref q6, .ref q7, .int 0, .int 0])), (q1, .inl (cI, 50, .inl (fun _ => 0))), (q2, .inl (cI, 50, .inl (fun _ => 0))), (q3, .inl (cI, 50, .inl (fun _ => 0))), (q4, .inl (cI, 6, .inl (fun _ => 0))), (q5, .inl (cI, 6, .inl (fun _ => 0))), (q6, .inl (cI, 6, .inl (fun _ => 0))), (q7, .inl (cI, 4, .inl (upd (fun _ => 0) (0 : Int32).toNatClampNeg 4)))]) H := hP
  have hD : va_D A ([(h0, .inr (0, [.ref q1, .ref q2, .ref q3, .ref q4, .ref q5, .ref q6, .ref q7, .int 0, .int 0])), (q1, .inl (cI, 50, .inl (fun _ => 0))), (q2, .inl (cI, 50, .inl (fun _ => 0))), (q3, .inl (cI, 50, .inl (fun _ => 0))), (q4, .inl (cI, 6, .inl (fun _ => 0))), (q5, .inl (cI, 6, .inl (fun _ => 0))), (q6, .inl (cI, 6, .inl (fun _ => 0))), (q7, .inl (cI, 4, .inl (upd (fun _ => 0) (0 : Int32).toNatClampNeg 4)))]) := hD
  refine lv_aload_n hx hb d_X0_init_66 rfl (lv_at hl 0 rfl) ?_
  refine va_get (ci := 0) (v := .ref q7) (C := RX0) (T := TX0) (N := 9) hx hb hts uw0 hown hK hP 0 rfl rfl 6 (by decide) (hts _ kw_50) (fun _ h9 => h9) rfl d_X0_init_67 ?_
  refine lv_iconst (v := 1) hx hb d_X0_init_70 (by decide) ?_
  refine lv_iconst (v := 5) hx hb d_X0_init_71 (by decide) ?_
  refine va_iast hx hb hK hP hD hS 7 0 rfl rfl (vpi (by decide)) d_X0_init_72 (fun H locs hP hD hS => ?_)
  have hP : va_P D vwCl ([(h0, .inr (0, [.ref q1, .ref q2, .ref q3, .ref q4, .ref q5, .ref q6, .ref q7, .int 0, .int 0])), (q1, .inl (cI, 50, .inl (fun _ => 0))), (q2, .inl (cI, 50, .inl (fun _ => 0))), (q3, .inl (cI, 50, .inl (fun _ => 0))), (q4, .inl (cI, 6, .inl (fun _ => 0))), (q5, .inl (cI, 6, .inl (fun _ => 0))), (q6, .inl (cI, 6, .inl (fun _ => 0))), (q7, .inl (cI, 4, .inl (upd (upd (fun _ => 0) (0 : Int32).toNatClampNeg 4) (1 : Int32).toNatClampNeg 5)))]) H := hP
  have hD : va_D A ([(h0, .inr (0, [.ref q1, .ref q2, .ref q3, .ref q4, .ref q5, .ref q6, .ref q7, .int 0, .int 0])), (q1, .inl (cI, 50, .inl (fun _ => 0))), (q2, .inl (cI, 50, .inl (fun _ => 0))), (q3, .inl (cI, 50, .inl (fun _ => 0))), (q4, .inl (cI, 6, .inl (fun _ => 0))), (q5, .inl (cI, 6, .inl (fun _ => 0))), (q6, .inl (cI, 6, .inl (fun _ => 0))), (q7, .inl (cI, 4, .inl (upd (upd (fun _ => 0) (0 : Int32).toNatClampNeg 4) (1 : Int32).toNatClampNeg 5)))]) := hD
  refine lv_aload_n hx hb d_X0_init_73 rfl (lv_at hl 0 rfl) ?_
  refine va_get (ci := 0) (v := .ref q7) (C := RX0) (T := TX0) (N := 9) hx hb hts uw0 hown hK hP 0 rfl rfl 6 (by decide) (hts _ kw_50) (fun _ h9 => h9) rfl d_X0_init_74 ?_
  refine lv_iconst (v := 2) hx hb d_X0_init_77 (by decide) ?_
  refine lv_iconst (v := 3) hx hb d_X0_init_78 (by decide) ?_
  refine va_iast hx hb hK hP hD hS 7 0 rfl rfl (vpi (by decide)) d_X0_init_79 (fun H locs hP hD hS => ?_)
  have hP : va_P D vwCl ([(h0, .inr (0, [.ref q1, .ref q2, .ref q3, .ref q4, .ref q5, .ref q6, .ref q7, .int 0, .int 0])), (q1, .inl (cI, 50, .inl (fun _ => 0))), (q2, .inl (cI, 50, .inl (fun _ => 0))), (q3, .inl (cI, 50, .inl (fun _ => 0))), (q4, .inl (cI, 6, .inl (fun _ => 0))), (q5, .inl (cI, 6, .inl (fun _ => 0))), (q6, .inl (cI, 6, .inl (fun _ => 0))), (q7, .inl (cI, 4, .inl (upd (upd (upd (fun _ => 0) (0 : Int32).toNatClampNeg 4) (1 : Int32).toNatClampNeg 5) (2 : Int32).toNatClampNeg 3)))]) H := hP
  have hD : va_D A ([(h0, .inr (0, [.ref q1, .ref q2, .ref q3, .ref q4, .ref q5, .ref q6, .ref q7, .int 0, .int 0])), (q1, .inl (cI, 50, .inl (fun _ => 0))), (q2, .inl (cI, 50, .inl (fun _ => 0))), (q3, .inl (cI, 50, .inl (fun _ => 0))), (q4, .inl (cI, 6, .inl (fun _ => 0))), (q5, .inl (cI, 6, .inl (fun _ => 0))), (q6, .inl (cI, 6, .inl (fun _ => 0))), (q7, .inl (cI, 4, .inl (upd (upd (upd (fun _ => 0) (0 : Int32).toNatClampNeg 4) (1 : Int32).toNatClampNeg 5) (2 : Int32).toNatClampNeg 3)))]) := hD
  refine lv_aload_n hx hb d_X0_init_80 rfl (lv_at hl 0 rfl) ?_
  refine va_get (ci := 0) (v := .ref q7) (C := RX0) (T := TX0) (N := 9) hx hb hts uw0 hown hK hP 0 rfl rfl 6 (by decide) (hts _ kw_50) (fun _ h9 => h9) rfl d_X0_init_81 ?_
  refine lv_iconst (v := 3) hx hb d_X0_init_84 (by decide) ?_
  refine lv_iconst (v := 2) hx hb d_X0_init_85 (by decide) ?_
  refine va_iast hx hb hK hP hD hS 7 0 rfl rfl (vpi (by decide)) d_X0_init_86 (fun H locs hP hD hS => ?_)
  have hP : va_P D vwCl ([(h0, .inr (0, [.ref q1, .ref q2, .ref q3, .ref q4, .ref q5, .ref q6, .ref q7, .int 0, .int 0])), (q1, .inl (cI, 50, .inl (fun _ => 0))), (q2, .inl (cI, 50, .inl (fun _ => 0))), (q3, .inl (cI, 50, .inl (fun _ => 0))), (q4, .inl (cI, 6, .inl (fun _ => 0))), (q5, .inl (cI, 6, .inl (fun _ => 0))), (q6, .inl (cI, 6, .inl (fun _ => 0))), (q7, .inl (cI, 4, .inl (upd (upd (upd (upd (fun _ => 0) (0 : Int32).toNatClampNeg 4) (1 : Int32).toNatClampNeg 5) (2 : Int32).toNatClampNeg 3) (3 : Int32).toNatClampNeg 2)))]) H := hP
  have hD : va_D A ([(h0, .inr (0, [.ref q1, .ref q2, .ref q3, .ref q4, .ref q5, .ref q6, .ref q7, .int 0, .int 0])), (q1, .inl (cI, 50, .inl (fun _ => 0))), (q2, .inl (cI, 50, .inl (fun _ => 0))), (q3, .inl (cI, 50, .inl (fun _ => 0))), (q4, .inl (cI, 6, .inl (fun _ => 0))), (q5, .inl (cI, 6, .inl (fun _ => 0))), (q6, .inl (cI, 6, .inl (fun _ => 0))), (q7, .inl (cI, 4, .inl (upd (upd (upd (upd (fun _ => 0) (0 : Int32).toNatClampNeg 4) (1 : Int32).toNatClampNeg 5) (2 : Int32).toNatClampNeg 3) (3 : Int32).toNatClampNeg 2)))]) := hD
  refine lv_aload_n hx hb d_X0_init_87 rfl (lv_at hl 0 rfl) ?_
  refine lv_iconst (v := 0) hx hb d_X0_init_88 (by decide) ?_
  refine va_put (D := D) (ci := 0) (v := .int 0) (ty := .int) (C := RX0) (T := TX0) (N := 9) hx hb hts uw0 tyX0 tyX0_ok nmX0 hown hK hP hD hS 0 rfl rfl 7 (by decide) (hts _ kw_53) (fun _ h9 => h9) rfl (by decide +kernel) rfl rfl (Nat.le_of_ble_eq_true rfl) d_X0_init_89 (fun H locs hP hD hS => ?_)
  have hP : va_P D vwCl ([(h0, .inr (0, [.ref q1, .ref q2, .ref q3, .ref q4, .ref q5, .ref q6, .ref q7, .int 0, .int 0])), (q1, .inl (cI, 50, .inl (fun _ => 0))), (q2, .inl (cI, 50, .inl (fun _ => 0))), (q3, .inl (cI, 50, .inl (fun _ => 0))), (q4, .inl (cI, 6, .inl (fun _ => 0))), (q5, .inl (cI, 6, .inl (fun _ => 0))), (q6, .inl (cI, 6, .inl (fun _ => 0))), (q7, .inl (cI, 4, .inl (upd (upd (upd (upd (fun _ => 0) (0 : Int32).toNatClampNeg 4) (1 : Int32).toNatClampNeg 5) (2 : Int32).toNatClampNeg 3) (3 : Int32).toNatClampNeg 2)))]) H := hP
  have hD : va_D A ([(h0, .inr (0, [.ref q1, .ref q2, .ref q3, .ref q4, .ref q5, .ref q6, .ref q7, .int 0, .int 0])), (q1, .inl (cI, 50, .inl (fun _ => 0))), (q2, .inl (cI, 50, .inl (fun _ => 0))), (q3, .inl (cI, 50, .inl (fun _ => 0))), (q4, .inl (cI, 6, .inl (fun _ => 0))), (q5, .inl (cI, 6, .inl (fun _ => 0))), (q6, .inl (cI, 6, .inl (fun _ => 0))), (q7, .inl (cI, 4, .inl (upd (upd (upd (upd (fun _ => 0) (0 : Int32).toNatClampNeg 4) (1 : Int32).toNatClampNeg 5) (2 : Int32).toNatClampNeg 3) (3 : Int32).toNatClampNeg 2)))]) := hD
  refine lv_aload_n hx hb d_X0_init_92 rfl (lv_at hl 0 rfl) ?_
  refine lv_iconst (v := 0) hx hb d_X0_init_93 (by decide) ?_
  refine va_put (D := D) (ci := 0) (v := .int 0) (ty := .int) (C := RX0) (T := TX0) (N := 9) hx hb hts uw0 tyX0 tyX0_ok nmX0 hown hK hP hD hS 0 rfl rfl 8 (by decide) (hts _ kw_56) (fun _ h9 => h9) rfl (by decide +kernel) rfl rfl (Nat.le_of_ble_eq_true rfl) d_X0_init_94 (fun H locs hP hD hS => ?_)
  have hP : va_P D vwCl ([(h0, .inr (0, [.ref q1, .ref q2, .ref q3, .ref q4, .ref q5, .ref q6, .ref q7, .int 0, .int 0])), (q1, .inl (cI, 50, .inl (fun _ => 0))), (q2, .inl (cI, 50, .inl (fun _ => 0))), (q3, .inl (cI, 50, .inl (fun _ => 0))), (q4, .inl (cI, 6, .inl (fun _ => 0))), (q5, .inl (cI, 6, .inl (fun _ => 0))), (q6, .inl (cI, 6, .inl (fun _ => 0))), (q7, .inl (cI, 4, .inl (upd (upd (upd (upd (fun _ => 0) (0 : Int32).toNatClampNeg 4) (1 : Int32).toNatClampNeg 5) (2 : Int32).toNatClampNeg 3) (3 : Int32).toNatClampNeg 2)))]) H := hP
  have hD : va_D A ([(h0, .inr (0, [.ref q1, .ref q2, .ref q3, .ref q4, .ref q5, .ref q6, .ref q7, .int 0, .int 0])), (q1, .inl (cI, 50, .inl (fun _ => 0))), (q2, .inl (cI, 50, .inl (fun _ => 0))), (q3, .inl (cI, 50, .inl (fun _ => 0))), (q4, .inl (cI, 6, .inl (fun _ => 0))), (q5, .inl (cI, 6, .inl (fun _ => 0))), (q6, .inl (cI, 6, .inl (fun _ => 0))), (q7, .inl (cI, 4, .inl (upd (upd (upd (upd (fun _ => 0) (0 : Int32).toNatClampNeg 4) (1 : Int32).toNatClampNeg 5) (2 : Int32).toNatClampNeg 3) (3 : Int32).toNatClampNeg 2)))]) := hD
  rw [setG_eq] at hP hD
  have hP9 : va_P D vwCl (coreW h0 (fun i : Nat => [q1, q2, q3, q4, q5, q6, q7].getD i 0) cI) H := hP
  have hD9 : va_D A (coreW h0 (fun i : Nat => [q1, q2, q3, q4, q5, q6, q7].getD i 0) cI) := hD
  have hK9 := hK
  obtain ⟨u9, eu9⟩ : ∃ u : (Nat → Nat) × ClassId, u = ((fun i : Nat => [q1, q2, q3, q4, q5, q6, q7].getD i 0), cI) := ⟨_, rfl⟩
  have hP9 : va_P D vwCl (coreW h0 u9.1 u9.2) H := by rw [eu9]; exact hP9
  have hD9 : va_D A (coreW h0 u9.1 u9.2) := by rw [eu9]; exact hD9
  have hK9 : va_K D vwCl [(u9.2, .int)] s := by rw [eu9]; exact hK9
  exact W.vret hx hb hr (fun t ht hW => ⟨⟨u9, rfl, trivial, by rw [ht]; exact hP9, va_K.moved hW.alike hK9, hD9⟩, hS.F ht⟩) hS.2.2 d_X0_init_97
end
section
/-! THE CONSTRUCTORS of Script, History -/
theorem ref_cg {D : va_G} {cl : List vw_C} {a n : Nat} {cS : ClassId} {f g : Nat → Option Nat} {H : Heap} (h : va_at D cl (a, .inl (cS, n, .inr (.inr (.inr (.inr f))))) H) (e : ∀ j, j < n → f j = g j) : va_at D cl (a, .inl (cS, n, .inr (.inr (.inr (.inr g))))) H := by
  have h : H[a]? = some (vp_cell cS (n, .inr (.inr (.inr (.inr f))))) := h
  show H[a]? = some (vp_cell cS (n, .inr (.inr (.inr (.inr g)))))
  rw [h, vp_cell_q, vp_cell_q]
  have x : (fun j : Fin n => va_rf (f j.val)) = fun j : Fin n => va_rf (g j.val) := funext fun j => by rw [e j.val j.isLt]
  unfold arrV
  rw [x]
theorem va_Pset {D : va_G} {cl : List vw_C} {ws : va_W} {H : Heap} (h : va_P D cl ws H) (p : Nat) {x : Nat × va_E} (hx : va_at D cl x H) : va_P D cl (ws.set p x) H := by
  intro k q hk
  by_cases hkp : k = p
  · subst hkp
    have hl : k < (ws.set k x).length := (List.getElem?_eq_some_iff.mp hk).1
    rw [List.length_set] at hl
    rw [List.getElem?_set_self hl] at hk
    cases hk
    exact hx
  · rw [List.getElem?_set_ne (Ne.symm hkp)] at hk
    exact h k q hk
abbrev scriptW (h0 q1 q2 : Nat) (r : Nat → Nat) (cC cI : ClassId) : va_W := [(h0, .inr (3, [.ref q1, .ref q2, .int 0, .int 0])), (q1, .inl (cC, 90, .inl (fun _ => 0)))] ++ coreW q2 r cI
abbrev histW (h0 a : Nat) (q : Nat → Nat) (r : Nat → Nat → Nat) (cS cI : ClassId) : va_W := [(h0, .inr (1, [.ref a, .int 0, .int 0])), (a, .inl (cS, 6, .inr (.inr (.inr (.inr (fun j => some (q j)))))))] ++ coreW (q 0) (r 0) cI ++ coreW (q 1) (r 1) cI ++ coreW (q 2) (r 2) cI ++ coreW (q 3) (r 3) cI ++ coreW (q 4) (r 4) cI ++ coreW (q 5) (r 5) cI
set_option maxRecDepth 100000 in
theorem kw_19 : Jvm.Cond.initialized RX0 ∈ BG := bg_of 19 rfl rfl
set_option maxRecDepth 100000 in
theorem kw_34 : Jvm.Cond.instantiable RX0 9 ∈ BG := bg_of 34 rfl rfl
set_option maxRecDepth 100000 in
theorem kw_36 : Jvm.Cond.instanceMethod yX0_init ∈ BG := bg_of 36 rfl rfl
set_option maxRecDepth 100000 in
theorem kw_84 : Jvm.Cond.methodLink RX1 3 objectInit ∈ BG := bg_of 84 rfl rfl
set_option maxRecDepth 100000 in
theorem kw_85 : Jvm.Cond.classLink RX1 9 RX0 ∈ BG := bg_of 85 rfl rfl
set_option maxRecDepth 100000 in
theorem kw_87 : Jvm.Cond.methodLink RX1 17 yX0_init ∈ BG := bg_of 87 rfl rfl
set_option maxRecDepth 100000 in
theorem kw_88 : Jvm.Cond.fieldLink RX1 11 "VarveClock$History" "states" "[LVarveClock$Core;" ∈ BG := bg_of 88 rfl rfl
set_option maxRecDepth 100000 in
theorem kw_89 : Jvm.Cond.fieldLink RX1 18 "VarveClock$History" "next" "I" ∈ BG := bg_of 89 rfl rfl
set_option maxRecDepth 100000 in
theorem kw_90 : Jvm.Cond.fieldLink RX1 22 "VarveClock$History" "size" "I" ∈ BG := bg_of 90 rfl rfl
set_option maxRecDepth 100000 in
theorem kw_104 : Jvm.Cond.methodLink RX3 3 objectInit ∈ BG := bg_of 104 rfl rfl
set_option maxRecDepth 100000 in
theorem kw_105 : Jvm.Cond.classLink RX3 15 RX0 ∈ BG := bg_of 105 rfl rfl
set_option maxRecDepth 100000 in
theorem kw_106 : Jvm.Cond.methodLink RX3 17 yX0_init ∈ BG := bg_of 106 rfl rfl
set_option maxRecDepth 100000 in
theorem kw_107 : Jvm.Cond.fieldLink RX3 9 "VarveClock$Script" "signs" "[C" ∈ BG := bg_of 107 rfl rfl
set_option maxRecDepth 100000 in
theorem kw_108 : Jvm.Cond.fieldLink RX3 18 "VarveClock$Script" "draft" "LVarveClock$Core;" ∈ BG := bg_of 108 rfl rfl
set_option maxRecDepth 100000 in
theorem kw_109 : Jvm.Cond.fieldLink RX3 22 "VarveClock$Script" "length" "I" ∈ BG := bg_of 109 rfl rfl
set_option maxRecDepth 100000 in
theorem kw_110 : Jvm.Cond.fieldLink RX3 26 "VarveClock$Script" "at" "I" ∈ BG := bg_of 110 rfl rfl
set_option maxRecDepth 100000 in
theorem kw_c0 : Jvm.Cond.code yX0_init cX0_init 1 none ∈ BG := bg_of 37 rfl rfl
theorem d_X3_init_0 : decode cX3_init 0 = .ok (.aload_n 0, 1) := by decide +kernel
theorem d_X3_init_1 : decode cX3_init 1 = .ok (.invokespecial 3, 3) := by decide +kernel
theorem d_X3_init_4 : decode cX3_init 4 = .ok (.aload_n 0, 1) := by decide +kernel
theorem d_X3_init_5 : decode cX3_init 5 = .ok (.bipush 90, 2) := by decide +kernel
theorem d_X3_init_7 : decode cX3_init 7 = .ok (.newarray .char, 2) := by decide +kernel
theorem d_X3_init_9 : decode cX3_init 9 = .ok (.putfield 9, 3) := by decide +kernel
theorem d_X3_init_12 : decode cX3_init 12 = .ok (.aload_n 0, 1) := by decide +kernel
theorem d_X3_init_13 : decode cX3_init 13 = .ok (.new 15, 3) := by decide +kernel
theorem d_X3_init_16 : decode cX3_init 16 = .ok (.dup, 1) := by decide +kernel
theorem d_X3_init_17 : decode cX3_init 17 = .ok (.invokespecial 17, 3) := by decide +kernel
theorem d_X3_init_20 : decode cX3_init 20 = .ok (.putfield 18, 3) := by decide +kernel
theorem d_X3_init_23 : decode cX3_init 23 = .ok (.aload_n 0, 1) := by decide +kernel
theorem d_X3_init_24 : decode cX3_init 24 = .ok (.iconst 0, 1) := by decide +kernel
theorem d_X3_init_25 : decode cX3_init 25 = .ok (.putfield 22, 3) := by decide +kernel
theorem d_X3_init_28 : decode cX3_init 28 = .ok (.aload_n 0, 1) := by decide +kernel
theorem d_X3_init_29 : decode cX3_init 29 = .ok (.iconst 0, 1) := by decide +kernel
theorem d_X3_init_30 : decode cX3_init 30 = .ok (.putfield 26, 3) := by decide +kernel
theorem d_X3_init_33 : decode cX3_init 33 = .ok (.return_, 1) := by decide +kernel
set_option maxHeartbeats 8000000 in
set_option maxRecDepth 100000 in
theorem k_X3_init (l : Launch) (D : va_G) (h0 : Nat) (sz : Nat) : Met l yX3_init (.code yX3_init cX3_init 1 none :: BG) ({ frames := 2, cells := 9, slots := 271, locals := 40 }) (va_Pc [.ref h0] (fun U => PreK D sz [(h0, .inr (3, [.null, .null, .int 0, .int 0]))] U ∧ noE U)) (va_Qv (fun _ : Nat × Nat × (Nat → Nat) × ClassId × ClassId => True) (fun u t => PostK D (va_A [(h0, .inr (3, [.null, .null, .int 0, .int 0]))] sz) (scriptW h0 u.1 u.2.1 u.2.2.1 u.2.2.2.1 u.2.2.2.2) ([(u.2.2.2.1, .char), (u.2.2.2.2, .int)]) t) (va_A [(h0, .inr (3, [.null, .null, .int 0, .int 0]))] sz)) 9 271 (va_A [(h0, .inr (3, [.null, .null, .int 0, .int 0]))] sz) := by
  refine Met.ofW (cc := cX3_init) (maxL := 1) (ret := none) (by decide) rfl ?_
  intro p e s m args below meth c s₁ B hml hv
  obtain ⟨rfl, ⟨hsz, hP, hK, hD0⟩, hE⟩ := hv
  have hx := B.exec
  have hb := B.bytes
  have hr := B.returns
  have hts : ∀ w ∈ BG, w.before _ s = true := fun w hw => atoms_spec B.pre w (List.mem_cons_of_mem _ hw)
  have hown : s.vm.findClass RX3 = some m.cls := findClass_of_methodNamed B.named
  have hlocks := B.notSynchronized
  have hin : meth.name = "<init>" := (name_of_methodNamed B.named B.method).1
  subst hsz
  have hD := hD0.self (sz := s.heap.size)
  generalize hAe : va_A [(h0, .inr (3, [.null, .null, .int 0, .int 0]))] s.heap.size = A at hD ⊢
  have hA : ∀ q : Nat, s.heap.size ≤ q → A q := fun q h => by rw [← hAe]; exact Or.inr h
  have hS : va_S A s.heap s.heap [] := va_S.rf
  have hl := lv_entry ([.ref h0]) (n := 1) (Nat.le_of_ble_eq_true rfl)
  rw [lg_entry_eq]
  generalize (lg_sl ([.ref h0]) ++ List.replicate (1 - (lg_sl ([.ref h0])).length) Slot.unset).toArray = ls at hl ⊢
  have hl : lv_has ls 1 [(0, .ref h0)] := hl
  have hP : va_P D vwCl [(h0, .inr (3, [.null, .null, .int 0, .int 0]))] s.heap := hP
  refine lv_aload_n hx hb d_X3_init_0 rfl (lv_at hl 0 rfl) ?_
  refine W.objInit hx hb hown (hts _ kw_104) (hts _ kw_oii) (hts _ kw_oic) rfl (by rw [hml]; exact hl.1) rfl d_X3_init_1 (Nat.le_of_ble_eq_true rfl) (Nat.le_of_ble_eq_true rfl) ?_
  refine W.eq (g2 := F0 m 4 ls []) rfl ?_
  refine lv_aload_n hx hb d_X3_init_4 rfl (lv_at hl 0 rfl) ?_
  refine lv_bipush (v := 90) hx hb d_X3_init_5 (by decide) ?_
  refine va_newa (atype := .char) (ty := .char) (N' := 90) (a0 := (90, .inl (fun _ => 0))) hx hb (hts _ kw_arrC) rfl hK hP hD hS hA (fun cA => rfl) (by decide) (by decide) (Nat.le_of_ble_eq_true rfl) (Nat.le_of_ble_eq_true rfl) (Nat.le_of_ble_eq_true rfl) d_X3_init_7 (fun q1 cC H hK hP hD hS => ?_)
  refine W.widen (k := 1) (n := 90) (Nat.le_of_ble_eq_true rfl) (Nat.le_of_ble_eq_true rfl) ?_
  have hK : va_K D vwCl [(cC, .char)] s := hK
  have hP : va_P D vwCl ([(h0, .inr (3, [.null, .null, .int 0, .int 0])), (q1, .inl (cC, 90, .inl (fun _ => 0)))]) H := hP
  have hD : va_D A ([(h0, .inr (3, [.null, .null, .int 0, .int 0])), (q1, .inl (cC, 90, .inl (fun _ => 0)))]) := hD
  refine va_putF (D := D) (ci := 3) (v := .ref q1) (ty := .array .char) (C := RX3) (T := TX3) (N := 4) hx hb hts uw3 tyX3 tyX3_ok nmX3 hown hK hP hD hS 0 rfl rfl 0 (by decide) (hts _ kw_107) (fun _ h9 => h9) rfl hin rfl (by decide +kernel) rfl rfl (Nat.le_of_ble_eq_true rfl) d_X3_init_9 (fun H locs hP hD hS => ?_)
  have hP : va_P D vwCl ([(h0, .inr (3, [.ref q1, .null, .int 0, .int 0])), (q1, .inl (cC, 90, .inl (fun _ => 0)))]) H := hP
  have hD : va_D A ([(h0, .inr (3, [.ref q1, .null, .int 0, .int 0])), (q1, .inl (cC, 90, .inl (fun _ => 0)))]) := hD
  refine lv_aload_n hx hb d_X3_init_12 rfl (lv_at hl 0 rfl) ?_
  refine va_new (ci := 0) (fs := [.null, .null, .null, .null, .null, .null, .null, .int 0, .int 0]) (C := RX0) (T := TX0) (N := 9) hx hb hts uw0 tyX0 tyX0_ok hown (hts _ kw_105) (hts _ kw_34) (hts _ kw_19) hK hP hD hS hA rfl (fun j hj => by rcases (show j = 0 ∨ j = 1 ∨ j = 2 ∨ j = 3 ∨ j = 4 ∨ j = 5 ∨ j = 6 ∨ j = 7 ∨ j = 8 by omega) with rfl | rfl | rfl | rfl | rfl | rfl | rfl | rfl | rfl <;> rfl) (Nat.le_of_ble_eq_true rfl) (Nat.le_of_ble_eq_true rfl) d_X3_init_13 (fun q2 H hP hD hS => ?_)
  refine W.widen (k := 2) (n := 99) (Nat.le_of_ble_eq_true rfl) (Nat.le_of_ble_eq_true rfl) ?_
  have hP : va_P D vwCl ([(h0, .inr (3, [.ref q1, .null, .int 0, .int 0])), (q1, .inl (cC, 90, .inl (fun _ => 0))), (q2, .inr (0, [.null, .null, .null, .null, .null, .null, .null, .int 0, .int 0]))]) H := hP
  have hD : va_D A ([(h0, .inr (3, [.ref q1, .null, .int 0, .int 0])), (q1, .inl (cC, 90, .inl (fun _ => 0))), (q2, .inr (0, [.null, .null, .null, .null, .null, .null, .null, .int 0, .int 0]))]) := hD
  refine lv_dup hx hb d_X3_init_16 rfl ?_
  have hP : va_P D vwCl (([(h0, .inr (3, [.ref q1, .null, .int 0, .int 0])), (q1, .inl (cC, 90, .inl (fun _ => 0)))]) ++ [(q2, .inr (0, [.null, .null, .null, .null, .null, .null, .null, .int 0, .int 0]))]) H := hP
  have hD : va_D A (([(h0, .inr (3, [.ref q1, .null, .int 0, .int 0])), (q1, .inl (cC, 90, .inl (fun _ => 0)))]) ++ [(q2, .inr (0, [.null, .null, .null, .null, .null, .null, .null, .int 0, .int 0]))]) := hD
  have hPc := va_PR hP
  have hDc := va_DR hD
  have hKc := hK.sub (tys' := []) [] rfl
  have hFc := va_freeA hD hS hA
  refine va_callv (va_runI (As := []) (rest := [.ref q2, .ref h0]) ⟨hx, hb, hml, hown, hts⟩ (k_X0_init l D q2 H.size) (cwI 0 hts (bg_sub (fun w hw => by rcases List.mem_cons.mp hw with rfl | hw; exact kw_c0; exact hw)) rfl rfl rfl (hts _ kw_19) (hts _ kw_106) (hts _ kw_36) rfl (by decide +kernel) ⟨(Nat.le_of_ble_eq_true rfl), (Nat.le_of_ble_eq_true rfl)⟩) ⟨fun a U g mk q => ⟨q.1, ⟨q.2.1.1, q.2.1.2.1, va_K.moved (u := U) (U := U.calling g mk a) (Vm.Alike.refl U.vm) q.2.1.2.2.1, q.2.1.2.2.2⟩, noE.moved (u := U) (U := U.calling g mk a) (Vm.Alike.refl U.vm) q.2.2⟩, fun U hU hW => ⟨rfl, ⟨by rw [hU], by rw [hU]; exact hPc, va_K.moved hW.alike hKc, hDc.weaken (fun _ _ _ _ => trivial)⟩, noE.moved hW.alike trivial⟩⟩ rfl rfl hl.1 rfl (lv_room (Nat.le_of_ble_eq_true rfl)) d_X3_init_17 ⟨(Nat.le_of_ble_eq_true rfl), (Nat.le_of_ble_eq_true rfl)⟩) hS (fun q _ h => hFc q h) hFc (fun u t H1 locs ht hvm hw hB hz1 hk1 hS => ?_)
  obtain ⟨r3, cI3⟩ := u
  obtain ⟨hP1, hK1, hD1⟩ := hB
  rw [ht] at hP1
  have hK1 := va_K.moved hvm.symm hK1
  obtain ⟨hP, hD⟩ := va_joinA hP hD hk1 hFc hP1 hD1
  generalize H1 = H at hP hS ⊢
  refine W.widen (k := 9) (n := 271) (Nat.le_of_ble_eq_true rfl) (Nat.le_of_ble_eq_true rfl) ?_
  have hK := hK.app hK1
  have hK : va_K D vwCl [(cC, .char), (cI3, .int)] s := hK
  have hK := hK.sub (tys' := [(cC, .char), (cI3, .int)]) [0, 1] rfl
  have hP : va_P D vwCl ([(h0, .inr (3, [.ref q1, .null, .int 0, .int 0])), (q1, .inl (cC, 90, .inl (fun _ => 0)))] ++ coreW q2 r3 cI3) H := hP
  have hD : va_D A ([(h0, .inr (3, [.ref q1, .null, .int 0, .int 0])), (q1, .inl (cC, 90, .inl (fun _ => 0)))] ++ coreW q2 r3 cI3) := hD
  refine va_putF (D := D) (ci := 3) (v := .ref q2) (ty := .object "VarveClock$Core") (C := RX3) (T := TX3) (N := 4) hx hb hts uw3 tyX3 tyX3_ok nmX3 hown hK hP hD hS 0 rfl rfl 1 (by decide) (hts _ kw_108) (fun _ h9 => h9) rfl hin rfl (by decide +kernel) rfl rfl (Nat.le_of_ble_eq_true rfl) d_X3_init_20 (fun H locs hP hD hS => ?_)
  have hP : va_P D vwCl ([(h0, .inr (3, [.ref q1, .ref q2, .int 0, .int 0])), (q1, .inl (cC, 90, .inl (fun _ => 0)))] ++ coreW q2 r3 cI3) H := hP
  have hD : va_D A ([(h0, .inr (3, [.ref q1, .ref q2, .int 0, .int 0])), (q1, .inl (cC, 90, .inl (fun _ => 0)))] ++ coreW q2 r3 cI3) := hD
  refine lv_aload_n hx hb d_X3_init_23 rfl (lv_at hl 0 rfl) ?_
  refine lv_iconst (v := 0) hx hb d_X3_init_24 (by decide) ?_
  refine va_put (D := D) (ci := 3) (v := .int 0) (ty := .int) (C := RX3) (T := TX3) (N := 4) hx hb hts uw3 tyX3 tyX3_ok nmX3 hown hK hP hD hS 0 rfl rfl 2 (by decide) (hts _ kw_109) (fun _ h9 => h9) rfl (by decide +kernel) rfl rfl (Nat.le_of_ble_eq_true rfl) d_X3_init_25 (fun H locs hP hD hS => ?_)
  have hP : va_P D vwCl ([(h0, .inr (3, [.ref q1, .ref q2, .int 0, .int 0])), (q1, .inl (cC, 90, .inl (fun _ => 0)))] ++ coreW q2 r3 cI3) H := hP
  have hD : va_D A ([(h0, .inr (3, [.ref q1, .ref q2, .int 0, .int 0])), (q1, .inl (cC, 90, .inl (fun _ => 0)))] ++ coreW q2 r3 cI3) := hD
  refine lv_aload_n hx hb d_X3_init_28 rfl (lv_at hl 0 rfl) ?_
  refine lv_iconst (v := 0) hx hb d_X3_init_29 (by decide) ?_
  refine va_put (D := D) (ci := 3) (v := .int 0) (ty := .int) (C := RX3) (T := TX3) (N := 4) hx hb hts uw3 tyX3 tyX3_ok nmX3 hown hK hP hD hS 0 rfl rfl 3 (by decide) (hts _ kw_110) (fun _ h9 => h9) rfl (by decide +kernel) rfl rfl (Nat.le_of_ble_eq_true rfl) d_X3_init_30 (fun H locs hP hD hS => ?_)
  have hP : va_P D vwCl ([(h0, .inr (3, [.ref q1, .ref q2, .int 0, .int 0])), (q1, .inl (cC, 90, .inl (fun _ => 0)))] ++ coreW q2 r3 cI3) H := hP
  have hD : va_D A ([(h0, .inr (3, [.ref q1, .ref q2, .int 0, .int 0])), (q1, .inl (cC, 90, .inl (fun _ => 0)))] ++ coreW q2 r3 cI3) := hD
  obtain ⟨u9, eu9⟩ : ∃ u : Nat × Nat × (Nat → Nat) × ClassId × ClassId, u = (q1, q2, r3, cC, cI3) := ⟨_, rfl⟩
  have hP9 : va_P D vwCl (scriptW h0 u9.1 u9.2.1 u9.2.2.1 u9.2.2.2.1 u9.2.2.2.2) H := by rw [eu9]; exact hP
  have hD9 : va_D A (scriptW h0 u9.1 u9.2.1 u9.2.2.1 u9.2.2.2.1 u9.2.2.2.2) := by rw [eu9]; exact hD
  have hK9 : va_K D vwCl ([(u9.2.2.2.1, .char), (u9.2.2.2.2, .int)]) s := by rw [eu9]; exact hK
  exact W.vret hx hb hr (fun t ht hW => ⟨⟨u9, rfl, trivial, by rw [ht]; exact hP9, va_K.moved hW.alike hK9, hD9⟩, hS.F ht⟩) hS.2.2 d_X3_init_33
theorem d_X1_init_0 : decode cX1_init 0 = .ok (.aload_n 0, 1) := by decide +kernel
theorem d_X1_init_1 : decode cX1_init 1 = .ok (.invokespecial 3, 3) := by decide +kernel
theorem d_X1_init_4 : decode cX1_init 4 = .ok (.aload_n 0, 1) := by decide +kernel
theorem d_X1_init_5 : decode cX1_init 5 = .ok (.bipush 6, 2) := by decide +kernel
theorem d_X1_init_7 : decode cX1_init 7 = .ok (.anewarray 9, 3) := by decide +kernel
theorem d_X1_init_10 : decode cX1_init 10 = .ok (.putfield 11, 3) := by decide +kernel
theorem d_X1_init_13 : decode cX1_init 13 = .ok (.iconst 0, 1) := by decide +kernel
theorem d_X1_init_14 : decode cX1_init 14 = .ok (.istore_n 1, 1) := by decide +kernel
theorem d_X1_init_15 : decode cX1_init 15 = .ok (.iload_n 1, 1) := by decide +kernel
theorem d_X1_init_16 : decode cX1_init 16 = .ok (.bipush 6, 2) := by decide +kernel
theorem d_X1_init_18 : decode cX1_init 18 = .ok (.if_icmp .ge 22, 3) := by decide +kernel
theorem d_X1_init_21 : decode cX1_init 21 = .ok (.aload_n 0, 1) := by decide +kernel
theorem d_X1_init_22 : decode cX1_init 22 = .ok (.getfield 11, 3) := by decide +kernel
theorem d_X1_init_25 : decode cX1_init 25 = .ok (.iload_n 1, 1) := by decide +kernel
theorem d_X1_init_26 : decode cX1_init 26 = .ok (.new 9, 3) := by decide +kernel
theorem d_X1_init_29 : decode cX1_init 29 = .ok (.dup, 1) := by decide +kernel
theorem d_X1_init_30 : decode cX1_init 30 = .ok (.invokespecial 17, 3) := by decide +kernel
theorem d_X1_init_33 : decode cX1_init 33 = .ok (.aastore, 1) := by decide +kernel
theorem d_X1_init_34 : decode cX1_init 34 = .ok (.iinc 1 1, 3) := by decide +kernel
theorem d_X1_init_37 : decode cX1_init 37 = .ok (.goto (-22), 3) := by decide +kernel
theorem d_X1_init_40 : decode cX1_init 40 = .ok (.aload_n 0, 1) := by decide +kernel
theorem d_X1_init_41 : decode cX1_init 41 = .ok (.iconst 0, 1) := by decide +kernel
theorem d_X1_init_42 : decode cX1_init 42 = .ok (.putfield 18, 3) := by decide +kernel
theorem d_X1_init_45 : decode cX1_init 45 = .ok (.aload_n 0, 1) := by decide +kernel
theorem d_X1_init_46 : decode cX1_init 46 = .ok (.iconst 0, 1) := by decide +kernel
theorem d_X1_init_47 : decode cX1_init 47 = .ok (.putfield 22, 3) := by decide +kernel
theorem d_X1_init_50 : decode cX1_init 50 = .ok (.return_, 1) := by decide +kernel
set_option maxHeartbeats 8000000 in
set_option maxRecDepth 100000 in
theorem k_X1_init (l : Launch) (D : va_G) (h0 : Nat) (sz : Nat) : Met l yX1_init (.code yX1_init cX1_init 2 none :: BG) ({ frames := 2, cells := 49, slots := 1092, locals := 40 }) (va_Pc [.ref h0] (fun U => PreK D sz [(h0, .inr (1, [.null, .int 0, .int 0]))] U ∧ (va_AO RX0) U)) (va_Qv (fun _ : Nat × (Nat → Nat) × (Nat → Nat → Nat) × ClassId × ClassId => True) (fun u t => PostK D (va_A [(h0, .inr (1, [.null, .int 0, .int 0]))] sz) (histW h0 u.1 u.2.1 u.2.2.1 u.2.2.2.1 u.2.2.2.2) ([(u.2.2.2.1, .object RX0), (u.2.2.2.2, .int)]) t) (va_A [(h0, .inr (1, [.null, .int 0, .int 0]))] sz)) 49 1092 (va_A [(h0, .inr (1, [.null, .int 0, .int 0]))] sz) := by
  refine Met.ofW (cc := cX1_init) (maxL := 2) (ret := none) (by decide) rfl ?_
  intro p e s m args below meth c s₁ B hml hv
  obtain ⟨rfl, ⟨hsz, hP, hK, hD0⟩, hE⟩ := hv
  have hx := B.exec
  have hb := B.bytes
  have hr := B.returns
  have hts : ∀ w ∈ BG, w.before _ s = true := fun w hw => atoms_spec B.pre w (List.mem_cons_of_mem _ hw)
  have hown : s.vm.findClass RX1 = some m.cls := findClass_of_methodNamed B.named
  have hlocks := B.notSynchronized
  have hin : meth.name = "<init>" := (name_of_methodNamed B.named B.method).1
  subst hsz
  have hD := hD0.self (sz := s.heap.size)
  generalize hAe : va_A [(h0, .inr (1, [.null, .int 0, .int 0]))] s.heap.size = A at hD ⊢
  have hA : ∀ q : Nat, s.heap.size ≤ q → A q := fun q h => by rw [← hAe]; exact Or.inr h
  have hS : va_S A s.heap s.heap [] := va_S.rf
  have hl := lv_entry ([.ref h0]) (n := 2) (Nat.le_of_ble_eq_true rfl)
  rw [lg_entry_eq]
  generalize (lg_sl ([.ref h0]) ++ List.replicate (2 - (lg_sl ([.ref h0])).length) Slot.unset).toArray = ls at hl ⊢
  have hl : lv_has ls 2 [(0, .ref h0)] := hl
  have hP : va_P D vwCl [(h0, .inr (1, [.null, .int 0, .int 0]))] s.heap := hP
  refine lv_aload_n hx hb d_X1_init_0 rfl (lv_at hl 0 rfl) ?_
  refine W.objInit hx hb hown (hts _ kw_84) (hts _ kw_oii) (hts _ kw_oic) rfl (by rw [hml]; exact hl.1) rfl d_X1_init_1 (Nat.le_of_ble_eq_true rfl) (Nat.le_of_ble_eq_true rfl) ?_
  refine W.eq (g2 := F0 m 4 ls []) rfl ?_
  refine lv_aload_n hx hb d_X1_init_4 rfl (lv_at hl 0 rfl) ?_
  refine lv_bipush (v := 6) hx hb d_X1_init_5 (by decide) ?_
  refine va_newq (C := RX0) (N' := 6) hx hb hown (hts _ kw_85) hE hK hP hD hS hA (by decide) (by decide) (Nat.le_of_ble_eq_true rfl) (Nat.le_of_ble_eq_true rfl) (Nat.le_of_ble_eq_true rfl) d_X1_init_7 (fun q1 cS H hK hP hD hS => ?_)
  refine W.widen (k := 1) (n := 6) (Nat.le_of_ble_eq_true rfl) (Nat.le_of_ble_eq_true rfl) ?_
  have hK : va_K D vwCl [(cS, .object RX0)] s := hK
  have hP : va_P D vwCl ([(h0, .inr (1, [.null, .int 0, .int 0])), (q1, .inl (cS, 6, .inr (.inr (.inr (.inr (fun _ => none))))))]) H := hP
  have hD : va_D A ([(h0, .inr (1, [.null, .int 0, .int 0])), (q1, .inl (cS, 6, .inr (.inr (.inr (.inr (fun _ => none))))))]) := hD
  refine va_putF (D := D) (ci := 1) (v := .ref q1) (ty := .array (.object "VarveClock$Core")) (C := RX1) (T := TX1) (N := 3) hx hb hts uw1 tyX1 tyX1_ok nmX1 hown hK hP hD hS 0 rfl rfl 0 (by decide) (hts _ kw_88) (fun _ h9 => h9) rfl hin rfl (by decide +kernel) rfl rfl (Nat.le_of_ble_eq_true rfl) d_X1_init_10 (fun H locs hP hD hS => ?_)
  have hP : va_P D vwCl ([(h0, .inr (1, [.ref q1, .int 0, .int 0])), (q1, .inl (cS, 6, .inr (.inr (.inr (.inr (fun _ => none))))))]) H := hP
  have hD : va_D A ([(h0, .inr (1, [.ref q1, .int 0, .int 0])), (q1, .inl (cS, 6, .inr (.inr (.inr (.inr (fun _ => none))))))]) := hD
  refine lv_iconst (v := 0) hx hb d_X1_init_13 (by decide) ?_
  refine lv_istore_n (lv' := [(1, .int 0), (0, .ref h0)]) hx hb d_X1_init_14 rfl hl (by decide) rfl (fun ls hl => ?_)
  refine lv_iload_n hx hb d_X1_init_15 rfl (lv_at hl 0 rfl) ?_
  refine lv_bipush (v := 6) hx hb d_X1_init_16 (by decide) ?_
  refine lv_icmp_ge (tgt := 40) hx hb d_X1_init_18 (by decide) (fun c_ => absurd c_ (by decide)) (fun c_ => ?_)
  refine lv_aload_n hx hb d_X1_init_21 rfl (lv_at hl 1 rfl) ?_
  refine va_get (ci := 1) (v := .ref q1) (C := RX1) (T := TX1) (N := 3) hx hb hts uw1 hown hK hP 0 rfl rfl 0 (by decide) (hts _ kw_88) (fun _ h9 => h9) rfl d_X1_init_22 ?_
  refine lv_iload_n hx hb d_X1_init_25 rfl (lv_at hl 0 rfl) ?_
  refine va_new (ci := 0) (fs := [.null, .null, .null, .null, .null, .null, .null, .int 0, .int 0]) (C := RX0) (T := TX0) (N := 9) hx hb hts uw0 tyX0 tyX0_ok hown (hts _ kw_85) (hts _ kw_34) (hts _ kw_19) hK hP hD hS hA rfl (fun j hj => by rcases (show j = 0 ∨ j = 1 ∨ j = 2 ∨ j = 3 ∨ j = 4 ∨ j = 5 ∨ j = 6 ∨ j = 7 ∨ j = 8 by omega) with rfl | rfl | rfl | rfl | rfl | rfl | rfl | rfl | rfl <;> rfl) (Nat.le_of_ble_eq_true rfl) (Nat.le_of_ble_eq_true rfl) d_X1_init_26 (fun q2 H hP hD hS => ?_)
  refine W.widen (k := 2) (n := 15) (Nat.le_of_ble_eq_true rfl) (Nat.le_of_ble_eq_true rfl) ?_
  have hP : va_P D vwCl ([(h0, .inr (1, [.ref q1, .int 0, .int 0])), (q1, .inl (cS, 6, .inr (.inr (.inr (.inr (fun _ => none)))))), (q2, .inr (0, [.null, .null, .null, .null, .null, .null, .null, .int 0, .int 0]))]) H := hP
  have hD : va_D A ([(h0, .inr (1, [.ref q1, .int 0, .int 0])), (q1, .inl (cS, 6, .inr (.inr (.inr (.inr (fun _ => none)))))), (q2, .inr (0, [.null, .null, .null, .null, .null, .null, .null, .int 0, .int 0]))]) := hD
  refine lv_dup hx hb d_X1_init_29 rfl ?_
  have hP : va_P D vwCl (([(h0, .inr (1, [.ref q1, .int 0, .int 0])), (q1, .inl (cS, 6, .inr (.inr (.inr (.inr (fun _ => none))))))]) ++ [(q2, .inr (0, [.null, .null, .null, .null, .null, .null, .null, .int 0, .int 0]))]) H := hP
  have hD : va_D A (([(h0, .inr (1, [.ref q1, .int 0, .int 0])), (q1, .inl (cS, 6, .inr (.inr (.inr (.inr (fun _ => none))))))]) ++ [(q2, .inr (0, [.null, .null, .null, .null, .null, .null, .null, .int 0, .int 0]))]) := hD
  have hPc := va_PR hP
  have hDc := va_DR hD
  have hKc := hK.sub (tys' := []) [] rfl
  have hFc := va_freeA hD hS hA
  refine va_callv (va_runI (As := []) (rest := [.ref q2, .int 0, .ref q1]) ⟨hx, hb, hml, hown, hts⟩ (k_X0_init l D q2 H.size) (cwI 0 hts (bg_sub (fun w hw => by rcases List.mem_cons.mp hw with rfl | hw; exact kw_c0; exact hw)) rfl rfl rfl (hts _ kw_19) (hts _ kw_87) (hts _ kw_36) rfl (by decide +kernel) ⟨(Nat.le_of_ble_eq_true rfl), (Nat.le_of_ble_eq_true rfl)⟩) ⟨fun a U g mk q => ⟨q.1, ⟨q.2.1.1, q.2.1.2.1, va_K.moved (u := U) (U := U.calling g mk a) (Vm.Alike.refl U.vm) q.2.1.2.2.1, q.2.1.2.2.2⟩, noE.moved (u := U) (U := U.calling g mk a) (Vm.Alike.refl U.vm) q.2.2⟩, fun U hU hW => ⟨rfl, ⟨by rw [hU], by rw [hU]; exact hPc, va_K.moved hW.alike hKc, hDc.weaken (fun _ _ _ _ => trivial)⟩, noE.moved hW.alike trivial⟩⟩ rfl rfl hl.1 rfl (lv_room (Nat.le_of_ble_eq_true rfl)) d_X1_init_30 ⟨(Nat.le_of_ble_eq_true rfl), (Nat.le_of_ble_eq_true rfl)⟩) hS (fun q _ h => hFc q h) hFc (fun u t H1 locs ht hvm hw hB hz1 hk1 hS => ?_)
  obtain ⟨r3, cI3⟩ := u
  obtain ⟨hP1, hK1, hD1⟩ := hB
  rw [ht] at hP1
  have hK1 := va_K.moved hvm.symm hK1
  obtain ⟨hP, hD⟩ := va_joinA hP hD hk1 hFc hP1 hD1
  generalize H1 = H at hP hS ⊢
  refine W.widen (k := 9) (n := 187) (Nat.le_of_ble_eq_true rfl) (Nat.le_of_ble_eq_true rfl) ?_
  have hK := hK.app hK1
  have hK : va_K D vwCl [(cS, .object RX0), (cI3, .int)] s := hK
  have hK := hK.sub (tys' := [(cS, .object RX0), (cI3, .int)]) [0, 1] rfl
  have hP : va_P D vwCl ([(h0, .inr (1, [.ref q1, .int 0, .int 0])), (q1, .inl (cS, 6, .inr (.inr (.inr (.inr (fun _ => none))))))] ++ coreW q2 r3 cI3) H := hP
  have hD : va_D A ([(h0, .inr (1, [.ref q1, .int 0, .int 0])), (q1, .inl (cS, 6, .inr (.inr (.inr (.inr (fun _ => none))))))] ++ coreW q2 r3 cI3) := hD
  refine va_astq hx hb hK hP hD hS 1 0 2 0 rfl rfl rfl rfl (vpi (by decide)) d_X1_init_33 (fun H locs hP hD hS => ?_)
  have hP : va_P D vwCl ([(h0, .inr (1, [.ref q1, .int 0, .int 0])), (q1, .inl (cS, 6, .inr (.inr (.inr (.inr (va_up (fun _ => none) (0 : Int32).toNatClampNeg (some q2)))))))] ++ coreW q2 r3 cI3) H := hP
  have hD : va_D A ([(h0, .inr (1, [.ref q1, .int 0, .int 0])), (q1, .inl (cS, 6, .inr (.inr (.inr (.inr (va_up (fun _ => none) (0 : Int32).toNatClampNeg (some q2)))))))] ++ coreW q2 r3 cI3) := hD
  refine lv_iinc (v := 1) (lv' := [(1, .int 1), (0, .ref h0)]) hx hb d_X1_init_34 hl (k := 0) rfl (by decide) (by decide) rfl (fun ls hl => ?_)
  refine lv_goto (tgt := 15) hx hb d_X1_init_37 (by decide) ?_
  refine lv_iload_n hx hb d_X1_init_15 rfl (lv_at hl 0 rfl) ?_
  refine lv_bipush (v := 6) hx hb d_X1_init_16 (by decide) ?_
  refine lv_icmp_ge (tgt := 40) hx hb d_X1_init_18 (by decide) (fun c_ => absurd c_ (by decide)) (fun c_ => ?_)
  refine lv_aload_n hx hb d_X1_init_21 rfl (lv_at hl 1 rfl) ?_
  refine va_get (ci := 1) (v := .ref q1) (C := RX1) (T := TX1) (N := 3) hx hb hts uw1 hown hK hP 0 rfl rfl 0 (by decide) (hts _ kw_88) (fun _ h9 => h9) rfl d_X1_init_22 ?_
  refine lv_iload_n hx hb d_X1_init_25 rfl (lv_at hl 0 rfl) ?_
  refine va_new (ci := 0) (fs := [.null, .null, .null, .null, .null, .null, .null, .int 0, .int 0]) (C := RX0) (T := TX0) (N := 9) hx hb hts uw0 tyX0 tyX0_ok hown (hts _ kw_85) (hts _ kw_34) (hts _ kw_19) hK hP hD hS hA rfl (fun j hj => by rcases (show j = 0 ∨ j = 1 ∨ j = 2 ∨ j = 3 ∨ j = 4 ∨ j = 5 ∨ j = 6 ∨ j = 7 ∨ j = 8 by omega) with rfl | rfl | rfl | rfl | rfl | rfl | rfl | rfl | rfl <;> rfl) (Nat.le_of_ble_eq_true rfl) (Nat.le_of_ble_eq_true rfl) d_X1_init_26 (fun q4 H hP hD hS => ?_)
  refine W.widen (k := 10) (n := 196) (Nat.le_of_ble_eq_true rfl) (Nat.le_of_ble_eq_true rfl) ?_
  have hP : va_P D vwCl ([(h0, .inr (1, [.ref q1, .int 0, .int 0])), (q1, .inl (cS, 6, .inr (.inr (.inr (.inr (va_up (fun _ => none) (0 : Int32).toNatClampNeg (some q2)))))))] ++ coreW q2 r3 cI3 ++ [(q4, .inr (0, [.null, .null, .null, .null, .null, .null, .null, .int 0, .int 0]))]) H := hP
  have hD : va_D A ([(h0, .inr (1, [.ref q1, .int 0, .int 0])), (q1, .inl (cS, 6, .inr (.inr (.inr (.inr (va_up (fun _ => none) (0 : Int32).toNatClampNeg (some q2)))))))] ++ coreW q2 r3 cI3 ++ [(q4, .inr (0, [.null, .null, .null, .null, .null, .null, .null, .int 0, .int 0]))]) := hD
  refine lv_dup hx hb d_X1_init_29 rfl ?_
  have hP : va_P D vwCl (([(h0, .inr (1, [.ref q1, .int 0, .int 0])), (q1, .inl (cS, 6, .inr (.inr (.inr (.inr (va_up (fun _ => none) (0 : Int32).toNatClampNeg (some q2)))))))] ++ coreW q2 r3 cI3) ++ [(q4, .inr (0, [.null, .null, .null, .null, .null, .null, .null, .int 0, .int 0]))]) H := hP
  have hD : va_D A (([(h0, .inr (1, [.ref q1, .int 0, .int 0])), (q1, .inl (cS, 6, .inr (.inr (.inr (.inr (va_up (fun _ => none) (0 : Int32).toNatClampNeg (some q2)))))))] ++ coreW q2 r3 cI3) ++ [(q4, .inr (0, [.null, .null, .null, .null, .null, .null, .null, .int 0, .int 0]))]) := hD
  have hPc := va_PR hP
  have hDc := va_DR hD
  have hKc := hK.sub (tys' := []) [] rfl
  have hFc := va_freeA hD hS hA
  refine va_callv (va_runI (As := []) (rest := [.ref q4, .int 1, .ref q1]) ⟨hx, hb, hml, hown, hts⟩ (k_X0_init l D q4 H.size) (cwI 0 hts (bg_sub (fun w hw => by rcases List.mem_cons.mp hw with rfl | hw; exact kw_c0; exact hw)) rfl rfl rfl (hts _ kw_19) (hts _ kw_87) (hts _ kw_36) rfl (by decide +kernel) ⟨(Nat.le_of_ble_eq_true rfl), (Nat.le_of_ble_eq_true rfl)⟩) ⟨fun a U g mk q => ⟨q.1, ⟨q.2.1.1, q.2.1.2.1, va_K.moved (u := U) (U := U.calling g mk a) (Vm.Alike.refl U.vm) q.2.1.2.2.1, q.2.1.2.2.2⟩, noE.moved (u := U) (U := U.calling g mk a) (Vm.Alike.refl U.vm) q.2.2⟩, fun U hU hW => ⟨rfl, ⟨by rw [hU], by rw [hU]; exact hPc, va_K.moved hW.alike hKc, hDc.weaken (fun _ _ _ _ => trivial)⟩, noE.moved hW.alike trivial⟩⟩ rfl rfl hl.1 rfl (lv_room (Nat.le_of_ble_eq_true rfl)) d_X1_init_30 ⟨(Nat.le_of_ble_eq_true rfl), (Nat.le_of_ble_eq_true rfl)⟩) hS (fun q _ h => hFc q h) hFc (fun u t H1 locs ht hvm hw hB hz1 hk1 hS => ?_)
  obtain ⟨r5, cI5⟩ := u
  obtain ⟨hP1, hK1, hD1⟩ := hB
  rw [ht] at hP1
  have hK1 := va_K.moved hvm.symm hK1
  obtain ⟨hP, hD⟩ := va_joinA hP hD hk1 hFc hP1 hD1
  generalize H1 = H at hP hS ⊢
  refine W.widen (k := 17) (n := 368) (Nat.le_of_ble_eq_true rfl) (Nat.le_of_ble_eq_true rfl) ?_
  have hK := hK.app hK1
  have hK : va_K D vwCl [(cS, .object RX0), (cI3, .int), (cI5, .int)] s := hK
  have ey : cI3 = cI5 := tyU hK (t := .int) (by simp) (by simp)
  subst ey
  have hK := hK.sub (tys' := [(cS, .object RX0), (cI3, .int)]) [0, 1] rfl
  have hP : va_P D vwCl ([(h0, .inr (1, [.ref q1, .int 0, .int 0])), (q1, .inl (cS, 6, .inr (.inr (.inr (.inr (va_up (fun _ => none) (0 : Int32).toNatClampNeg (some q2)))))))] ++ coreW q2 r3 cI3 ++ coreW q4 r5 cI3) H := hP
  have hD : va_D A ([(h0, .inr (1, [.ref q1, .int 0, .int 0])), (q1, .inl (cS, 6, .inr (.inr (.inr (.inr (va_up (fun _ => none) (0 : Int32).toNatClampNeg (some q2)))))))] ++ coreW q2 r3 cI3 ++ coreW q4 r5 cI3) := hD
  refine va_astq hx hb hK hP hD hS 1 0 10 0 rfl rfl rfl rfl (vpi (by decide)) d_X1_init_33 (fun H locs hP hD hS => ?_)
  have hP : va_P D vwCl ([(h0, .inr (1, [.ref q1, .int 0, .int 0])), (q1, .inl (cS, 6, .inr (.inr (.inr (.inr (va_up (va_up (fun _ => none) (0 : Int32).toNatClampNeg (some q2)) (1 : Int32).toNatClampNeg (some q4)))))))] ++ coreW q2 r3 cI3 ++ coreW q4 r5 cI3) H := hP
  have hD : va_D A ([(h0, .inr (1, [.ref q1, .int 0, .int 0])), (q1, .inl (cS, 6, .inr (.inr (.inr (.inr (va_up (va_up (fun _ => none) (0 : Int32).toNatClampNeg (some q2)) (1 : Int32).toNatClampNeg (some q4)))))))] ++ coreW q2 r3 cI3 ++ coreW q4 r5 cI3) := hD
  refine lv_iinc (v := 2) (lv' := [(1, .int 2), (0, .ref h0)]) hx hb d_X1_init_34 hl (k := 0) rfl (by decide) (by decide) rfl (fun ls hl => ?_)
  refine lv_goto (tgt := 15) hx hb d_X1_init_37 (by decide) ?_
  refine lv_iload_n hx hb d_X1_init_15 rfl (lv_at hl 0 rfl) ?_
  refine lv_bipush (v := 6) hx hb d_X1_init_16 (by decide) ?_
  refine lv_icmp_ge (tgt := 40) hx hb d_X1_init_18 (by decide) (fun c_ => absurd c_ (by decide)) (fun c_ => ?_)
  refine lv_aload_n hx hb d_X1_init_21 rfl (lv_at hl 1 rfl) ?_
  refine va_get (ci := 1) (v := .ref q1) (C := RX1) (T := TX1) (N := 3) hx hb hts uw1 hown hK hP 0 rfl rfl 0 (by decide) (hts _ kw_88) (fun _ h9 => h9) rfl d_X1_init_22 ?_
  refine lv_iload_n hx hb d_X1_init_25 rfl (lv_at hl 0 rfl) ?_
  refine va_new (ci := 0) (fs := [.null, .null, .null, .null, .null, .null, .null, .int 0, .int 0]) (C := RX0) (T := TX0) (N := 9) hx hb hts uw0 tyX0 tyX0_ok hown (hts _ kw_85) (hts _ kw_34) (hts _ kw_19) hK hP hD hS hA rfl (fun j hj => by rcases (show j = 0 ∨ j = 1 ∨ j = 2 ∨ j = 3 ∨ j = 4 ∨ j = 5 ∨ j = 6 ∨ j = 7 ∨ j = 8 by omega) with rfl | rfl | rfl | rfl | rfl | rfl | rfl | rfl | rfl <;> rfl) (Nat.le_of_ble_eq_true rfl) (Nat.le_of_ble_eq_true rfl) d_X1_init_26 (fun q6 H hP hD hS => ?_)
  refine W.widen (k := 18) (n := 377) (Nat.le_of_ble_eq_true rfl) (Nat.le_of_ble_eq_true rfl) ?_
  have hP : va_P D vwCl ([(h0, .inr (1, [.ref q1, .int 0, .int 0])), (q1, .inl (cS, 6, .inr (.inr (.inr (.inr (va_up (va_up (fun _ => none) (0 : Int32).toNatClampNeg (some q2)) (1 : Int32).toNatClampNeg (some q4)))))))] ++ coreW q2 r3 cI3 ++ coreW q4 r5 cI3 ++ [(q6, .inr (0, [.null, .null, .null, .null, .null, .null, .null, .int 0, .int 0]))]) H := hP
  have hD : va_D A ([(h0, .inr (1, [.ref q1, .int 0, .int 0])), (q1, .inl (cS, 6, .inr (.inr (.inr (.inr (va_up (va_up (fun _ => none) (0 : Int32).toNatClampNeg (some q2)) (1 : Int32).toNatClampNeg (some q4)))))))] ++ coreW q2 r3 cI3 ++ coreW q4 r5 cI3 ++ [(q6, .inr (0, [.null, .null, .null, .null, .null, .null, .null, .int 0, .int 0]))]) := hD
  refine lv_dup hx hb d_X1_init_29 rfl ?_
  have hP : va_P D vwCl (([(h0, .inr (1, [.ref q1, .int 0, .int 0])), (q1, .inl (cS, 6, .inr (.inr (.inr (.inr (va_up (va_up (fun _ => none) (0 : Int32).toNatClampNeg (some q2)) (1 : Int32).toNatClampNeg (some q4)))))))] ++ coreW q2 r3 cI3 ++ coreW q4 r5 cI3) ++ [(q6, .inr (0, [.null, .null, .null, .null, .null, .null, .null, .int 0, .int 0]))]) H := hP
  have hD : va_D A (([(h0, .inr (1, [.ref q1, .int 0, .int 0])), (q1, .inl (cS, 6, .inr (.inr (.inr (.inr (va_up (va_up (fun _ => none) (0 : Int32).toNatClampNeg (some q2)) (1 : Int32).toNatClampNeg (some q4)))))))] ++ coreW q2 r3 cI3 ++ coreW q4 r5 cI3) ++ [(q6, .inr (0, [.null, .null, .null, .null, .null, .null, .null, .int 0, .int 0]))]) := hD
  have hPc := va_PR hP
  have hDc := va_DR hD
  have hKc := hK.sub (tys' := []) [] rfl
  have hFc := va_freeA hD hS hA
  refine va_callv (va_runI (As := []) (rest := [.ref q6, .int 2, .ref q1]) ⟨hx, hb, hml, hown, hts⟩ (k_X0_init l D q6 H.size) (cwI 0 hts (bg_sub (fun w hw => by rcases List.mem_cons.mp hw with rfl | hw; exact kw_c0; exact hw)) rfl rfl rfl (hts _ kw_19) (hts _ kw_87) (hts _ kw_36) rfl (by decide +kernel) ⟨(Nat.le_of_ble_eq_true rfl), (Nat.le_of_ble_eq_true rfl)⟩) ⟨fun a U g mk q => ⟨q.1, ⟨q.2.1.1, q.2.1.2.1, va_K.moved (u := U) (U := U.calling g mk a) (Vm.Alike.refl U.vm) q.2.1.2.2.1, q.2.1.2.2.2⟩, noE.moved (u := U) (U := U.calling g mk a) (Vm.Alike.refl U.vm) q.2.2⟩, fun U hU hW => ⟨rfl, ⟨by rw [hU], by rw [hU]; exact hPc, va_K.moved hW.alike hKc, hDc.weaken (fun _ _ _ _ => trivial)⟩, noE.moved hW.alike trivial⟩⟩ rfl rfl hl.1 rfl (lv_room (Nat.le_of_ble_eq_true rfl)) d_X1_init_30 ⟨(Nat.le_of_ble_eq_true rfl), (Nat.le_of_ble_eq_true rfl)⟩) hS (fun q _ h => hFc q h) hFc (fun u t H1 locs ht hvm hw hB hz1 hk1 hS => ?_)
  obtain ⟨r7, cI7⟩ := u
  obtain ⟨hP1, hK1, hD1⟩ := hB
  rw [ht] at hP1
  have hK1 := va_K.moved hvm.symm hK1
  obtain ⟨hP, hD⟩ := va_joinA hP hD hk1 hFc hP1 hD1
  generalize H1 = H at hP hS ⊢
  refine W.widen (k := 25) (n := 549) (Nat.le_of_ble_eq_true rfl) (Nat.le_of_ble_eq_true rfl) ?_
  have hK := hK.app hK1
  have hK : va_K D vwCl [(cS, .object RX0), (cI3, .int), (cI7, .int)] s := hK
  have ey : cI3 = cI7 := tyU hK (t := .int) (by simp) (by simp)
  subst ey
  have hK := hK.sub (tys' := [(cS, .object RX0), (cI3, .int)]) [0, 1] rfl
  have hP : va_P D vwCl ([(h0, .inr (1, [.ref q1, .int 0, .int 0])), (q1, .inl (cS, 6, .inr (.inr (.inr (.inr (va_up (va_up (fun _ => none) (0 : Int32).toNatClampNeg (some q2)) (1 : Int32).toNatClampNeg (some q4)))))))] ++ coreW q2 r3 cI3 ++ coreW q4 r5 cI3 ++ coreW q6 r7 cI3) H := hP
  have hD : va_D A ([(h0, .inr (1, [.ref q1, .int 0, .int 0])), (q1, .inl (cS, 6, .inr (.inr (.inr (.inr (va_up (va_up (fun _ => none) (0 : Int32).toNatClampNeg (some q2)) (1 : Int32).toNatClampNeg (some q4)))))))] ++ coreW q2 r3 cI3 ++ coreW q4 r5 cI3 ++ coreW q6 r7 cI3) := hD
  refine va_astq hx hb hK hP hD hS 1 0 18 0 rfl rfl rfl rfl (vpi (by decide)) d_X1_init_33 (fun H locs hP hD hS => ?_)
  have hP : va_P D vwCl ([(h0, .inr (1, [.ref q1, .int 0, .int 0])), (q1, .inl (cS, 6, .inr (.inr (.inr (.inr (va_up (va_up (va_up (fun _ => none) (0 : Int32).toNatClampNeg (some q2)) (1 : Int32).toNatClampNeg (some q4)) (2 : Int32).toNatClampNeg (some q6)))))))] ++ coreW q2 r3 cI3 ++ coreW q4 r5 cI3 ++ coreW q6 r7 cI3) H := hP
  have hD : va_D A ([(h0, .inr (1, [.ref q1, .int 0, .int 0])), (q1, .inl (cS, 6, .inr (.inr (.inr (.inr (va_up (va_up (va_up (fun _ => none) (0 : Int32).toNatClampNeg (some q2)) (1 : Int32).toNatClampNeg (some q4)) (2 : Int32).toNatClampNeg (some q6)))))))] ++ coreW q2 r3 cI3 ++ coreW q4 r5 cI3 ++ coreW q6 r7 cI3) := hD
  refine lv_iinc (v := 3) (lv' := [(1, .int 3), (0, .ref h0)]) hx hb d_X1_init_34 hl (k := 0) rfl (by decide) (by decide) rfl (fun ls hl => ?_)
  refine lv_goto (tgt := 15) hx hb d_X1_init_37 (by decide) ?_
  refine lv_iload_n hx hb d_X1_init_15 rfl (lv_at hl 0 rfl) ?_
  refine lv_bipush (v := 6) hx hb d_X1_init_16 (by decide) ?_
  refine lv_icmp_ge (tgt := 40) hx hb d_X1_init_18 (by decide) (fun c_ => absurd c_ (by decide)) (fun c_ => ?_)
  refine lv_aload_n hx hb d_X1_init_21 rfl (lv_at hl 1 rfl) ?_
  refine va_get (ci := 1) (v := .ref q1) (C := RX1) (T := TX1) (N := 3) hx hb hts uw1 hown hK hP 0 rfl rfl 0 (by decide) (hts _ kw_88) (fun _ h9 => h9) rfl d_X1_init_22 ?_
  refine lv_iload_n hx hb d_X1_init_25 rfl (lv_at hl 0 rfl) ?_
  refine va_new (ci := 0) (fs := [.null, .null, .null, .null, .null, .null, .null, .int 0, .int 0]) (C := RX0) (T := TX0) (N := 9) hx hb hts uw0 tyX0 tyX0_ok hown (hts _ kw_85) (hts _ kw_34) (hts _ kw_19) hK hP hD hS hA rfl (fun j hj => by rcases (show j = 0 ∨ j = 1 ∨ j = 2 ∨ j = 3 ∨ j = 4 ∨ j = 5 ∨ j = 6 ∨ j = 7 ∨ j = 8 by omega) with rfl | rfl | rfl | rfl | rfl | rfl | rfl | rfl | rfl <;> rfl) (Nat.le_of_ble_eq_true rfl) (Nat.le_of_ble_eq_true rfl) d_X1_init_26 (fun q8 H hP hD hS => ?_)
  refine W.widen (k := 26) (n := 558) (Nat.le_of_ble_eq_true rfl) (Nat.le_of_ble_eq_true rfl) ?_
  have hP : va_P D vwCl ([(h0, .inr (1, [.ref q1, .int 0, .int 0])), (q1, .inl (cS, 6, .inr (.inr (.inr (.inr (va_up (va_up (va_up (fun _ => none) (0 : Int32).toNatClampNeg (some q2)) (1 : Int32).toNatClampNeg (some q4)) (2 : Int32).toNatClampNeg (some q6)))))))] ++ coreW q2 r3 cI3 ++ coreW q4 r5 cI3 ++ coreW q6 r7 cI3 ++ [(q8, .inr (0, [.null, .null, .null, .null, .null, .null, .null, .int 0, .int 0]))]) H := hP
  have hD : va_D A ([(h0, .inr (1, [.ref q1, .int 0, .int 0])), (q1, .inl (cS, 6, .inr (.inr (.inr (.inr (va_up (va_up (va_up (fun _ => none) (0 : Int32).toNatClampNeg (some q2)) (1 : Int32).toNatClampNeg (some q4)) (2 : Int32).toNatClampNeg (some q6)))))))] ++ coreW q2 r3 cI3 ++ coreW q4 r5 cI3 ++ coreW q6 r7 cI3 ++ [(q8, .inr (0, [.null, .null, .null, .null, .null, .null, .null, .int 0, .int 0]))]) := hD
  refine lv_dup hx hb d_X1_init_29 rfl ?_
  have hP : va_P D vwCl (([(h0, .inr (1, [.ref q1, .int 0, .int 0])), (q1, .inl (cS, 6, .inr (.inr (.inr (.inr (va_up (va_up (va_up (fun _ => none) (0 : Int32).toNatClampNeg (some q2)) (1 : Int32).toNatClampNeg (some q4)) (2 : Int32).toNatClampNeg (some q6)))))))] ++ coreW q2 r3 cI3 ++ coreW q4 r5 cI3 ++ coreW q6 r7 cI3) ++ [(q8, .inr (0, [.null, .null, .null, .null, .null, .null, .null, .int 0, .int 0]))]) H := hP
  have hD : va_D A (([(h0, .inr (1, [.ref q1, .int 0, .int 0])), (q1, .inl (cS, 6, .inr (.inr (.inr (.inr (va_up (va_up (va_up (fun _ => none) (0 : Int32).toNatClampNeg (some q2)) (1 : Int32).toNatClampNeg (some q4)) (2 : Int32).toNatClampNeg (some q6)))))))] ++ coreW q2 r3 cI3 ++ coreW q4 r5 cI3 ++ coreW q6 r7 cI3) ++ [(q8, .inr (0, [.null, .null, .null, .null, .null, .null, .null, .int 0, .int 0]))]) := hD
  have hPc := va_PR hP
  have hDc := va_DR hD
  have hKc := hK.sub (tys' := []) [] rfl
  have hFc := va_freeA hD hS hA
  refine va_callv (va_runI (As := []) (rest := [.ref q8, .int 3, .ref q1]) ⟨hx, hb, hml, hown, hts⟩ (k_X0_init l D q8 H.size) (cwI 0 hts (bg_sub (fun w hw => by rcases List.mem_cons.mp hw with rfl | hw; exact kw_c0; exact hw)) rfl rfl rfl (hts _ kw_19) (hts _ kw_87) (hts _ kw_36) rfl (by decide +kernel) ⟨(Nat.le_of_ble_eq_true rfl), (Nat.le_of_ble_eq_true rfl)⟩) ⟨fun a U g mk q => ⟨q.1, ⟨q.2.1.1, q.2.1.2.1, va_K.moved (u := U) (U := U.calling g mk a) (Vm.Alike.refl U.vm) q.2.1.2.2.1, q.2.1.2.2.2⟩, noE.moved (u := U) (U := U.calling g mk a) (Vm.Alike.refl U.vm) q.2.2⟩, fun U hU hW => ⟨rfl, ⟨by rw [hU], by rw [hU]; exact hPc, va_K.moved hW.alike hKc, hDc.weaken (fun _ _ _ _ => trivial)⟩, noE.moved hW.alike trivial⟩⟩ rfl rfl hl.1 rfl (lv_room (Nat.le_of_ble_eq_true rfl)) d_X1_init_30 ⟨(Nat.le_of_ble_eq_true rfl), (Nat.le_of_ble_eq_true rfl)⟩) hS (fun q _ h => hFc q h) hFc (fun u t H1 locs ht hvm hw hB hz1 hk1 hS => ?_)
  obtain ⟨r9, cI9⟩ := u
  obtain ⟨hP1, hK1, hD1⟩ := hB
  rw [ht] at hP1
  have hK1 := va_K.moved hvm.symm hK1
  obtain ⟨hP, hD⟩ := va_joinA hP hD hk1 hFc hP1 hD1
  generalize H1 = H at hP hS ⊢
  refine W.widen (k := 33) (n := 730) (Nat.le_of_ble_eq_true rfl) (Nat.le_of_ble_eq_true rfl) ?_
  have hK := hK.app hK1
  have hK : va_K D vwCl [(cS, .object RX0), (cI3, .int), (cI9, .int)] s := hK
  have ey : cI3 = cI9 := tyU hK (t := .int) (by simp) (by simp)
  subst ey
  have hK := hK.sub (tys' := [(cS, .object RX0), (cI3, .int)]) [0, 1] rfl
  have hP : va_P D vwCl ([(h0, .inr (1, [.ref q1, .int 0, .int 0])), (q1, .inl (cS, 6, .inr (.inr (.inr (.inr (va_up (va_up (va_up (fun _ => none) (0 : Int32).toNatClampNeg (some q2)) (1 : Int32).toNatClampNeg (some q4)) (2 : Int32).toNatClampNeg (some q6)))))))] ++ coreW q2 r3 cI3 ++ coreW q4 r5 cI3 ++ coreW q6 r7 cI3 ++ coreW q8 r9 cI3) H := hP
  have hD : va_D A ([(h0, .inr (1, [.ref q1, .int 0, .int 0])), (q1, .inl (cS, 6, .inr (.inr (.inr (.inr (va_up (va_up (va_up (fun _ => none) (0 : Int32).toNatClampNeg (some q2)) (1 : Int32).toNatClampNeg (some q4)) (2 : Int32).toNatClampNeg (some q6)))))))] ++ coreW q2 r3 cI3 ++ coreW q4 r5 cI3 ++ coreW q6 r7 cI3 ++ coreW q8 r9 cI3) := hD
  refine va_astq hx hb hK hP hD hS 1 0 26 0 rfl rfl rfl rfl (vpi (by decide)) d_X1_init_33 (fun H locs hP hD hS => ?_)
  have hP : va_P D vwCl ([(h0, .inr (1, [.ref q1, .int 0, .int 0])), (q1, .inl (cS, 6, .inr (.inr (.inr (.inr (va_up (va_up (va_up (va_up (fun _ => none) (0 : Int32).toNatClampNeg (some q2)) (1 : Int32).toNatClampNeg (some q4)) (2 : Int32).toNatClampNeg (some q6)) (3 : Int32).toNatClampNeg (some q8)))))))] ++ coreW q2 r3 cI3 ++ coreW q4 r5 cI3 ++ coreW q6 r7 cI3 ++ coreW q8 r9 cI3) H := hP
  have hD : va_D A ([(h0, .inr (1, [.ref q1, .int 0, .int 0])), (q1, .inl (cS, 6, .inr (.inr (.inr (.inr (va_up (va_up (va_up (va_up (fun _ => none) (0 : Int32).toNatClampNeg (some q2)) (1 : Int32).toNatClampNeg (some q4)) (2 : Int32).toNatClampNeg (some q6)) (3 : Int32).toNatClampNeg (some q8)))))))] ++ coreW q2 r3 cI3 ++ coreW q4 r5 cI3 ++ coreW q6 r7 cI3 ++ coreW q8 r9 cI3) := hD
  refine lv_iinc (v := 4) (lv' := [(1, .int 4), (0, .ref h0)]) hx hb d_X1_init_34 hl (k := 0) rfl (by decide) (by decide) rfl (fun ls hl => ?_)
  refine lv_goto (tgt := 15) hx hb d_X1_init_37 (by decide) ?_
  refine lv_iload_n hx hb d_X1_init_15 rfl (lv_at hl 0 rfl) ?_
  refine lv_bipush (v := 6) hx hb d_X1_init_16 (by decide) ?_
  refine lv_icmp_ge (tgt := 40) hx hb d_X1_init_18 (by decide) (fun c_ => absurd c_ (by decide)) (fun c_ => ?_)
  refine lv_aload_n hx hb d_X1_init_21 rfl (lv_at hl 1 rfl) ?_
  refine va_get (ci := 1) (v := .ref q1) (C := RX1) (T := TX1) (N := 3) hx hb hts uw1 hown hK hP 0 rfl rfl 0 (by decide) (hts _ kw_88) (fun _ h9 => h9) rfl d_X1_init_22 ?_
  refine lv_iload_n hx hb d_X1_init_25 rfl (lv_at hl 0 rfl) ?_
  refine va_new (ci := 0) (fs := [.null, .null, .null, .null, .null, .null, .null, .int 0, .int 0]) (C := RX0) (T := TX0) (N := 9) hx hb hts uw0 tyX0 tyX0_ok hown (hts _ kw_85) (hts _ kw_34) (hts _ kw_19) hK hP hD hS hA rfl (fun j hj => by rcases (show j = 0 ∨ j = 1 ∨ j = 2 ∨ j = 3 ∨ j = 4 ∨ j = 5 ∨ j = 6 ∨ j = 7 ∨ j = 8 by omega) with rfl | rfl | rfl | rfl | rfl | rfl | rfl | rfl | rfl <;> rfl) (Nat.le_of_ble_eq_true rfl) (Nat.le_of_ble_eq_true rfl) d_X1_init_26 (fun q10 H hP hD hS => ?_)
  refine W.widen (k := 34) (n := 739) (Nat.le_of_ble_eq_true rfl) (Nat.le_of_ble_eq_true rfl) ?_
  have hP : va_P D vwCl ([(h0, .inr (1, [.ref q1, .int 0, .int 0])), (q1, .inl (cS, 6, .inr (.inr (.inr (.inr (va_up (va_up (va_up (va_up (fun _ => none) (0 : Int32).toNatClampNeg (some q2)) (1 : Int32).toNatClampNeg (some q4)) (2 : Int32).toNatClampNeg (some q6)) (3 : Int32).toNatClampNeg (some q8)))))))] ++ coreW q2 r3 cI3 ++ coreW q4 r5 cI3 ++ coreW q6 r7 cI3 ++ coreW q8 r9 cI3 ++ [(q10, .inr (0, [.null, .null, .null, .null, .null, .null, .null, .int 0, .int 0]))]) H := hP
  have hD : va_D A ([(h0, .inr (1, [.ref q1, .int 0, .int 0])), (q1, .inl (cS, 6, .inr (.inr (.inr (.inr (va_up (va_up (va_up (va_up (fun _ => none) (0 : Int32).toNatClampNeg (some q2)) (1 : Int32).toNatClampNeg (some q4)) (2 : Int32).toNatClampNeg (some q6)) (3 : Int32).toNatClampNeg (some q8)))))))] ++ coreW q2 r3 cI3 ++ coreW q4 r5 cI3 ++ coreW q6 r7 cI3 ++ coreW q8 r9 cI3 ++ [(q10, .inr (0, [.null, .null, .null, .null, .null, .null, .null, .int 0, .int 0]))]) := hD
  refine lv_dup hx hb d_X1_init_29 rfl ?_
  have hP : va_P D vwCl (([(h0, .inr (1, [.ref q1, .int 0, .int 0])), (q1, .inl (cS, 6, .inr (.inr (.inr (.inr (va_up (va_up (va_up (va_up (fun _ => none) (0 : Int32).toNatClampNeg (some q2)) (1 : Int32).toNatClampNeg (some q4)) (2 : Int32).toNatClampNeg (some q6)) (3 : Int32).toNatClampNeg (some q8)))))))] ++ coreW q2 r3 cI3 ++ coreW q4 r5 cI3 ++ coreW q6 r7 cI3 ++ coreW q8 r9 cI3) ++ [(q10, .inr (0, [.null, .null, .null, .null, .null, .null, .null, .int 0, .int 0]))]) H := hP
  have hD : va_D A (([(h0, .inr (1, [.ref q1, .int 0, .int 0])), (q1, .inl (cS, 6, .inr (.inr (.inr (.inr (va_up (va_up (va_up (va_up (fun _ => none) (0 : Int32).toNatClampNeg (some q2)) (1 : Int32).toNatClampNeg (some q4)) (2 : Int32).toNatClampNeg (some q6)) (3 : Int32).toNatClampNeg (some q8)))))))] ++ coreW q2 r3 cI3 ++ coreW q4 r5 cI3 ++ coreW q6 r7 cI3 ++ coreW q8 r9 cI3) ++ [(q10, .inr (0, [.null, .null, .null, .null, .null, .null, .null, .int 0, .int 0]))]) := hD
  have hPc := va_PR hP
  have hDc := va_DR hD
  have hKc := hK.sub (tys' := []) [] rfl
  have hFc := va_freeA hD hS hA
  refine va_callv (va_runI (As := []) (rest := [.ref q10, .int 4, .ref q1]) ⟨hx, hb, hml, hown, hts⟩ (k_X0_init l D q10 H.size) (cwI 0 hts (bg_sub (fun w hw => by rcases List.mem_cons.mp hw with rfl | hw; exact kw_c0; exact hw)) rfl rfl rfl (hts _ kw_19) (hts _ kw_87) (hts _ kw_36) rfl (by decide +kernel) ⟨(Nat.le_of_ble_eq_true rfl), (Nat.le_of_ble_eq_true rfl)⟩) ⟨fun a U g mk q => ⟨q.1, ⟨q.2.1.1, q.2.1.2.1, va_K.moved (u := U) (U := U.calling g mk a) (Vm.Alike.refl U.vm) q.2.1.2.2.1, q.2.1.2.2.2⟩, noE.moved (u := U) (U := U.calling g mk a) (Vm.Alike.refl U.vm) q.2.2⟩, fun U hU hW => ⟨rfl, ⟨by rw [hU], by rw [hU]; exact hPc, va_K.moved hW.alike hKc, hDc.weaken (fun _ _ _ _ => trivial)⟩, noE.moved hW.alike trivial⟩⟩ rfl rfl hl.1 rfl (lv_room (Nat.le_of_ble_eq_true rfl)) d_X1_init_30 ⟨(Nat.le_of_ble_eq_true rfl), (Nat.le_of_ble_eq_true rfl)⟩) hS (fun q _ h => hFc q h) hFc (fun u t H1 locs ht hvm hw hB hz1 hk1 hS => ?_)
  obtain ⟨r11, cI11⟩ := u
  obtain ⟨hP1, hK1, hD1⟩ := hB
  rw [ht] at hP1
  have hK1 := va_K.moved hvm.symm hK1
  obtain ⟨hP, hD⟩ := va_joinA hP hD hk1 hFc hP1 hD1
  generalize H1 = H at hP hS ⊢
  refine W.widen (k := 41) (n := 911) (Nat.le_of_ble_eq_true rfl) (Nat.le_of_ble_eq_true rfl) ?_
  have hK := hK.app hK1
  have hK : va_K D vwCl [(cS, .object RX0), (cI3, .int), (cI11, .int)] s := hK
  have ey : cI3 = cI11 := tyU hK (t := .int) (by simp) (by simp)
  subst ey
  have hK := hK.sub (tys' := [(cS, .object RX0), (cI3, .int)]) [0, 1] rfl
  have hP : va_P D vwCl ([(h0, .inr (1, [.ref q1, .int 0, .int 0])), (q1, .inl (cS, 6, .inr (.inr (.inr (.inr (va_up (va_up (va_up (va_up (fun _ => none) (0 : Int32).toNatClampNeg (some q2)) (1 : Int32).toNatClampNeg (some q4)) (2 : Int32).toNatClampNeg (some q6)) (3 : Int32).toNatClampNeg (some q8)))))))] ++ coreW q2 r3 cI3 ++ coreW q4 r5 cI3 ++ coreW q6 r7 cI3 ++ coreW q8 r9 cI3 ++ coreW q10 r11 cI3) H := hP
  have hD : va_D A ([(h0, .inr (1, [.ref q1, .int 0, .int 0])), (q1, .inl (cS, 6, .inr (.inr (.inr (.inr (va_up (va_up (va_up (va_up (fun _ => none) (0 : Int32).toNatClampNeg (some q2)) (1 : Int32).toNatClampNeg (some q4)) (2 : Int32).toNatClampNeg (some q6)) (3 : Int32).toNatClampNeg (some q8)))))))] ++ coreW q2 r3 cI3 ++ coreW q4 r5 cI3 ++ coreW q6 r7 cI3 ++ coreW q8 r9 cI3 ++ coreW q10 r11 cI3) := hD
  refine va_astq hx hb hK hP hD hS 1 0 34 0 rfl rfl rfl rfl (vpi (by decide)) d_X1_init_33 (fun H locs hP hD hS => ?_)
  have hP : va_P D vwCl ([(h0, .inr (1, [.ref q1, .int 0, .int 0])), (q1, .inl (cS, 6, .inr (.inr (.inr (.inr (va_up (va_up (va_up (va_up (va_up (fun _ => none) (0 : Int32).toNatClampNeg (some q2)) (1 : Int32).toNatClampNeg (some q4)) (2 : Int32).toNatClampNeg (some q6)) (3 : Int32).toNatClampNeg (some q8)) (4 : Int32).toNatClampNeg (some q10)))))))] ++ coreW q2 r3 cI3 ++ coreW q4 r5 cI3 ++ coreW q6 r7 cI3 ++ coreW q8 r9 cI3 ++ coreW q10 r11 cI3) H := hP
  have hD : va_D A ([(h0, .inr (1, [.ref q1, .int 0, .int 0])), (q1, .inl (cS, 6, .inr (.inr (.inr (.inr (va_up (va_up (va_up (va_up (va_up (fun _ => none) (0 : Int32).toNatClampNeg (some q2)) (1 : Int32).toNatClampNeg (some q4)) (2 : Int32).toNatClampNeg (some q6)) (3 : Int32).toNatClampNeg (some q8)) (4 : Int32).toNatClampNeg (some q10)))))))] ++ coreW q2 r3 cI3 ++ coreW q4 r5 cI3 ++ coreW q6 r7 cI3 ++ coreW q8 r9 cI3 ++ coreW q10 r11 cI3) := hD
  refine lv_iinc (v := 5) (lv' := [(1, .int 5), (0, .ref h0)]) hx hb d_X1_init_34 hl (k := 0) rfl (by decide) (by decide) rfl (fun ls hl => ?_)
  refine lv_goto (tgt := 15) hx hb d_X1_init_37 (by decide) ?_
  refine lv_iload_n hx hb d_X1_init_15 rfl (lv_at hl 0 rfl) ?_
  refine lv_bipush (v := 6) hx hb d_X1_init_16 (by decide) ?_
  refine lv_icmp_ge (tgt := 40) hx hb d_X1_init_18 (by decide) (fun c_ => absurd c_ (by decide)) (fun c_ => ?_)
  refine lv_aload_n hx hb d_X1_init_21 rfl (lv_at hl 1 rfl) ?_
  refine va_get (ci := 1) (v := .ref q1) (C := RX1) (T := TX1) (N := 3) hx hb hts uw1 hown hK hP 0 rfl rfl 0 (by decide) (hts _ kw_88) (fun _ h9 => h9) rfl d_X1_init_22 ?_
  refine lv_iload_n hx hb d_X1_init_25 rfl (lv_at hl 0 rfl) ?_
  refine va_new (ci := 0) (fs := [.null, .null, .null, .null, .null, .null, .null, .int 0, .int 0]) (C := RX0) (T := TX0) (N := 9) hx hb hts uw0 tyX0 tyX0_ok hown (hts _ kw_85) (hts _ kw_34) (hts _ kw_19) hK hP hD hS hA rfl (fun j hj => by rcases (show j = 0 ∨ j = 1 ∨ j = 2 ∨ j = 3 ∨ j = 4 ∨ j = 5 ∨ j = 6 ∨ j = 7 ∨ j = 8 by omega) with rfl | rfl | rfl | rfl | rfl | rfl | rfl | rfl | rfl <;> rfl) (Nat.le_of_ble_eq_true rfl) (Nat.le_of_ble_eq_true rfl) d_X1_init_26 (fun q12 H hP hD hS => ?_)
  refine W.widen (k := 42) (n := 920) (Nat.le_of_ble_eq_true rfl) (Nat.le_of_ble_eq_true rfl) ?_
  have hP : va_P D vwCl ([(h0, .inr (1, [.ref q1, .int 0, .int 0])), (q1, .inl (cS, 6, .inr (.inr (.inr (.inr (va_up (va_up (va_up (va_up (va_up (fun _ => none) (0 : Int32).toNatClampNeg (some q2)) (1 : Int32).toNatClampNeg (some q4)) (2 : Int32).toNatClampNeg (some q6)) (3 : Int32).toNatClampNeg (some q8)) (4 : Int32).toNatClampNeg (some q10)))))))] ++ coreW q2 r3 cI3 ++ coreW q4 r5 cI3 ++ coreW q6 r7 cI3 ++ coreW q8 r9 cI3 ++ coreW q10 r11 cI3 ++ [(q12, .inr (0, [.null, .null, .null, .null, .null, .null, .null, .int 0, .int 0]))]) H := hP
  have hD : va_D A ([(h0, .inr (1, [.ref q1, .int 0, .int 0])), (q1, .inl (cS, 6, .inr (.inr (.inr (.inr (va_up (va_up (va_up (va_up (va_up (fun _ => none) (0 : Int32).toNatClampNeg (some q2)) (1 : Int32).toNatClampNeg (some q4)) (2 : Int32).toNatClampNeg (some q6)) (3 : Int32).toNatClampNeg (some q8)) (4 : Int32).toNatClampNeg (some q10)))))))] ++ coreW q2 r3 cI3 ++ coreW q4 r5 cI3 ++ coreW q6 r7 cI3 ++ coreW q8 r9 cI3 ++ coreW q10 r11 cI3 ++ [(q12, .inr (0, [.null, .null, .null, .null, .null, .null, .null, .int 0, .int 0]))]) := hD
  refine lv_dup hx hb d_X1_init_29 rfl ?_
  have hP : va_P D vwCl (([(h0, .inr (1, [.ref q1, .int 0, .int 0])), (q1, .inl (cS, 6, .inr (.inr (.inr (.inr (va_up (va_up (va_up (va_up (va_up (fun _ => none) (0 : Int32).toNatClampNeg (some q2)) (1 : Int32).toNatClampNeg (some q4)) (2 : Int32).toNatClampNeg (some q6)) (3 : Int32).toNatClampNeg (some q8)) (4 : Int32).toNatClampNeg (some q10)))))))] ++ coreW q2 r3 cI3 ++ coreW q4 r5 cI3 ++ coreW q6 r7 cI3 ++ coreW q8 r9 cI3 ++ coreW q10 r11 cI3) ++ [(q12, .inr (0, [.null, .null, .null, .null, .null, .null, .null, .int 0, .int 0]))]) H := hP
  have hD : va_D A (([(h0, .inr (1, [.ref q1, .int 0, .int 0])), (q1, .inl (cS, 6, .inr (.inr (.inr (.inr (va_up (va_up (va_up (va_up (va_up (fun _ => none) (0 : Int32).toNatClampNeg (some q2)) (1 : Int32).toNatClampNeg (some q4)) (2 : Int32).toNatClampNeg (some q6)) (3 : Int32).toNatClampNeg (some q8)) (4 : Int32).toNatClampNeg (some q10)))))))] ++ coreW q2 r3 cI3 ++ coreW q4 r5 cI3 ++ coreW q6 r7 cI3 ++ coreW q8 r9 cI3 ++ coreW q10 r11 cI3) ++ [(q12, .inr (0, [.null, .null, .null, .null, .null, .null, .null, .int 0, .int 0]))]) := hD
  have hPc := va_PR hP
  have hDc := va_DR hD
  have hKc := hK.sub (tys' := []) [] rfl
  have hFc := va_freeA hD hS hA
  refine va_callv (va_runI (As := []) (rest := [.ref q12, .int 5, .ref q1]) ⟨hx, hb, hml, hown, hts⟩ (k_X0_init l D q12 H.size) (cwI 0 hts (bg_sub (fun w hw => by rcases List.mem_cons.mp hw with rfl | hw; exact kw_c0; exact hw)) rfl rfl rfl (hts _ kw_19) (hts _ kw_87) (hts _ kw_36) rfl (by decide +kernel) ⟨(Nat.le_of_ble_eq_true rfl), (Nat.le_of_ble_eq_true rfl)⟩) ⟨fun a U g mk q => ⟨q.1, ⟨q.2.1.1, q.2.1.2.1, va_K.moved (u := U) (U := U.calling g mk a) (Vm.Alike.refl U.vm) q.2.1.2.2.1, q.2.1.2.2.2⟩, noE.moved (u := U) (U := U.calling g mk a) (Vm.Alike.refl U.vm) q.2.2⟩, fun U hU hW => ⟨rfl, ⟨by rw [hU], by rw [hU]; exact hPc, va_K.moved hW.alike hKc, hDc.weaken (fun _ _ _ _ => trivial)⟩, noE.moved hW.alike trivial⟩⟩ rfl rfl hl.1 rfl (lv_room (Nat.le_of_ble_eq_true rfl)) d_X1_init_30 ⟨(Nat.le_of_ble_eq_true rfl), (Nat.le_of_ble_eq_true rfl)⟩) hS (fun q _ h => hFc q h) hFc (fun u t H1 locs ht hvm hw hB hz1 hk1 hS => ?_)
  obtain ⟨r13, cI13⟩ := u
  obtain ⟨hP1, hK1, hD1⟩ := hB
  rw [ht] at hP1
  have hK1 := va_K.moved hvm.symm hK1
  obtain ⟨hP, hD⟩ := va_joinA hP hD hk1 hFc hP1 hD1
  generalize H1 = H at hP hS ⊢
  refine W.widen (k := 49) (n := 1092) (Nat.le_of_ble_eq_true rfl) (Nat.le_of_ble_eq_true rfl) ?_
  have hK := hK.app hK1
  have hK : va_K D vwCl [(cS, .object RX0), (cI3, .int), (cI13, .int)] s := hK
  have ey : cI3 = cI13 := tyU hK (t := .int) (by simp) (by simp)
  subst ey
  have hK := hK.sub (tys' := [(cS, .object RX0), (cI3, .int)]) [0, 1] rfl
  have hP : va_P D vwCl ([(h0, .inr (1, [.ref q1, .int 0, .int 0])), (q1, .inl (cS, 6, .inr (.inr (.inr (.inr (va_up (va_up (va_up (va_up (va_up (fun _ => none) (0 : Int32).toNatClampNeg (some q2)) (1 : Int32).toNatClampNeg (some q4)) (2 : Int32).toNatClampNeg (some q6)) (3 : Int32).toNatClampNeg (some q8)) (4 : Int32).toNatClampNeg (some q10)))))))] ++ coreW q2 r3 cI3 ++ coreW q4 r5 cI3 ++ coreW q6 r7 cI3 ++ coreW q8 r9 cI3 ++ coreW q10 r11 cI3 ++ coreW q12 r13 cI3) H := hP
  have hD : va_D A ([(h0, .inr (1, [.ref q1, .int 0, .int 0])), (q1, .inl (cS, 6, .inr (.inr (.inr (.inr (va_up (va_up (va_up (va_up (va_up (fun _ => none) (0 : Int32).toNatClampNeg (some q2)) (1 : Int32).toNatClampNeg (some q4)) (2 : Int32).toNatClampNeg (some q6)) (3 : Int32).toNatClampNeg (some q8)) (4 : Int32).toNatClampNeg (some q10)))))))] ++ coreW q2 r3 cI3 ++ coreW q4 r5 cI3 ++ coreW q6 r7 cI3 ++ coreW q8 r9 cI3 ++ coreW q10 r11 cI3 ++ coreW q12 r13 cI3) := hD
  refine va_astq hx hb hK hP hD hS 1 0 42 0 rfl rfl rfl rfl (vpi (by decide)) d_X1_init_33 (fun H locs hP hD hS => ?_)
  have hP : va_P D vwCl ([(h0, .inr (1, [.ref q1, .int 0, .int 0])), (q1, .inl (cS, 6, .inr (.inr (.inr (.inr (va_up (va_up (va_up (va_up (va_up (va_up (fun _ => none) (0 : Int32).toNatClampNeg (some q2)) (1 : Int32).toNatClampNeg (some q4)) (2 : Int32).toNatClampNeg (some q6)) (3 : Int32).toNatClampNeg (some q8)) (4 : Int32).toNatClampNeg (some q10)) (5 : Int32).toNatClampNeg (some q12)))))))] ++ coreW q2 r3 cI3 ++ coreW q4 r5 cI3 ++ coreW q6 r7 cI3 ++ coreW q8 r9 cI3 ++ coreW q10 r11 cI3 ++ coreW q12 r13 cI3) H := hP
  have hD : va_D A ([(h0, .inr (1, [.ref q1, .int 0, .int 0])), (q1, .inl (cS, 6, .inr (.inr (.inr (.inr (va_up (va_up (va_up (va_up (va_up (va_up (fun _ => none) (0 : Int32).toNatClampNeg (some q2)) (1 : Int32).toNatClampNeg (some q4)) (2 : Int32).toNatClampNeg (some q6)) (3 : Int32).toNatClampNeg (some q8)) (4 : Int32).toNatClampNeg (some q10)) (5 : Int32).toNatClampNeg (some q12)))))))] ++ coreW q2 r3 cI3 ++ coreW q4 r5 cI3 ++ coreW q6 r7 cI3 ++ coreW q8 r9 cI3 ++ coreW q10 r11 cI3 ++ coreW q12 r13 cI3) := hD
  refine lv_iinc (v := 6) (lv' := [(1, .int 6), (0, .ref h0)]) hx hb d_X1_init_34 hl (k := 0) rfl (by decide) (by decide) rfl (fun ls hl => ?_)
  refine lv_goto (tgt := 15) hx hb d_X1_init_37 (by decide) ?_
  refine lv_iload_n hx hb d_X1_init_15 rfl (lv_at hl 0 rfl) ?_
  refine lv_bipush (v := 6) hx hb d_X1_init_16 (by decide) ?_
  refine lv_icmp_ge (tgt := 40) hx hb d_X1_init_18 (by decide) (fun c_ => ?_) (fun c_ => absurd (by decide) c_)
  refine lv_aload_n hx hb d_X1_init_40 rfl (lv_at hl 1 rfl) ?_
  refine lv_iconst (v := 0) hx hb d_X1_init_41 (by decide) ?_
  refine va_put (D := D) (ci := 1) (v := .int 0) (ty := .int) (C := RX1) (T := TX1) (N := 3) hx hb hts uw1 tyX1 tyX1_ok nmX1 hown hK hP hD hS 0 rfl rfl 1 (by decide) (hts _ kw_89) (fun _ h9 => h9) rfl (by decide +kernel) rfl rfl (Nat.le_of_ble_eq_true rfl) d_X1_init_42 (fun H locs hP hD hS => ?_)
  have hP : va_P D vwCl ([(h0, .inr (1, [.ref q1, .int 0, .int 0])), (q1, .inl (cS, 6, .inr (.inr (.inr (.inr (va_up (va_up (va_up (va_up (va_up (va_up (fun _ => none) (0 : Int32).toNatClampNeg (some q2)) (1 : Int32).toNatClampNeg (some q4)) (2 : Int32).toNatClampNeg (some q6)) (3 : Int32).toNatClampNeg (some q8)) (4 : Int32).toNatClampNeg (some q10)) (5 : Int32).toNatClampNeg (some q12)))))))] ++ coreW q2 r3 cI3 ++ coreW q4 r5 cI3 ++ coreW q6 r7 cI3 ++ coreW q8 r9 cI3 ++ coreW q10 r11 cI3 ++ coreW q12 r13 cI3) H := hP
  have hD : va_D A ([(h0, .inr (1, [.ref q1, .int 0, .int 0])), (q1, .inl (cS, 6, .inr (.inr (.inr (.inr (va_up (va_up (va_up (va_up (va_up (va_up (fun _ => none) (0 : Int32).toNatClampNeg (some q2)) (1 : Int32).toNatClampNeg (some q4)) (2 : Int32).toNatClampNeg (some q6)) (3 : Int32).toNatClampNeg (some q8)) (4 : Int32).toNatClampNeg (some q10)) (5 : Int32).toNatClampNeg (some q12)))))))] ++ coreW q2 r3 cI3 ++ coreW q4 r5 cI3 ++ coreW q6 r7 cI3 ++ coreW q8 r9 cI3 ++ coreW q10 r11 cI3 ++ coreW q12 r13 cI3) := hD
  refine lv_aload_n hx hb d_X1_init_45 rfl (lv_at hl 1 rfl) ?_
  refine lv_iconst (v := 0) hx hb d_X1_init_46 (by decide) ?_
  refine va_put (D := D) (ci := 1) (v := .int 0) (ty := .int) (C := RX1) (T := TX1) (N := 3) hx hb hts uw1 tyX1 tyX1_ok nmX1 hown hK hP hD hS 0 rfl rfl 2 (by decide) (hts _ kw_90) (fun _ h9 => h9) rfl (by decide +kernel) rfl rfl (Nat.le_of_ble_eq_true rfl) d_X1_init_47 (fun H locs hP hD hS => ?_)
  have hP : va_P D vwCl ([(h0, .inr (1, [.ref q1, .int 0, .int 0])), (q1, .inl (cS, 6, .inr (.inr (.inr (.inr (va_up (va_up (va_up (va_up (va_up (va_up (fun _ => none) (0 : Int32).toNatClampNeg (some q2)) (1 : Int32).toNatClampNeg (some q4)) (2 : Int32).toNatClampNeg (some q6)) (3 : Int32).toNatClampNeg (some q8)) (4 : Int32).toNatClampNeg (some q10)) (5 : Int32).toNatClampNeg (some q12)))))))] ++ coreW q2 r3 cI3 ++ coreW q4 r5 cI3 ++ coreW q6 r7 cI3 ++ coreW q8 r9 cI3 ++ coreW q10 r11 cI3 ++ coreW q12 r13 cI3) H := hP
  have hD : va_D A ([(h0, .inr (1, [.ref q1, .int 0, .int 0])), (q1, .inl (cS, 6, .inr (.inr (.inr (.inr (va_up (va_up (va_up (va_up (va_up (va_up (fun _ => none) (0 : Int32).toNatClampNeg (some q2)) (1 : Int32).toNatClampNeg (some q4)) (2 : Int32).toNatClampNeg (some q6)) (3 : Int32).toNatClampNeg (some q8)) (4 : Int32).toNatClampNeg (some q10)) (5 : Int32).toNatClampNeg (some q12)))))))] ++ coreW q2 r3 cI3 ++ coreW q4 r5 cI3 ++ coreW q6 r7 cI3 ++ coreW q8 r9 cI3 ++ coreW q10 r11 cI3 ++ coreW q12 r13 cI3) := hD
  have e0 : (0 : Int32).toNatClampNeg = 0 := by decide
  have e1 : (1 : Int32).toNatClampNeg = 1 := by decide
  have e2 : (2 : Int32).toNatClampNeg = 2 := by decide
  have e3 : (3 : Int32).toNatClampNeg = 3 := by decide
  have e4 : (4 : Int32).toNatClampNeg = 4 := by decide
  have e5 : (5 : Int32).toNatClampNeg = 5 := by decide
  rw [e0, e1, e2, e3, e4, e5] at hP hD
  have hat := ref_cg (g := fun j => some ((fun i : Nat => [q2, q4, q6, q8, q10, q12].getD i 0) j)) (hP 1 _ rfl) (fun j hj => by rcases (show j = 0 ∨ j = 1 ∨ j = 2 ∨ j = 3 ∨ j = 4 ∨ j = 5 by omega) with rfl | rfl | rfl | rfl | rfl | rfl <;> rfl)
  have hP := va_Pset hP 1 hat
  have hD := hD.set (p := 1) (e := .inl (cS, 6, .inr (.inr (.inr (.inr (fun j => some ((fun i : Nat => [q2, q4, q6, q8, q10, q12].getD i 0) j))))))) rfl
  obtain ⟨u9, eu9⟩ : ∃ u : Nat × (Nat → Nat) × (Nat → Nat → Nat) × ClassId × ClassId, u = (q1, (fun i : Nat => [q2, q4, q6, q8, q10, q12].getD i 0), (fun i : Nat => [r3, r5, r7, r9, r11, r13].getD i r3), cS, cI3) := ⟨_, rfl⟩
  have hP9 : va_P D vwCl (histW h0 u9.1 u9.2.1 u9.2.2.1 u9.2.2.2.1 u9.2.2.2.2) H := by rw [eu9]; exact hP
  have hD9 : va_D A (histW h0 u9.1 u9.2.1 u9.2.2.1 u9.2.2.2.1 u9.2.2.2.2) := by rw [eu9]; exact hD
  have hK9 : va_K D vwCl ([(u9.2.2.2.1, .object RX0), (u9.2.2.2.2, .int)]) s := by rw [eu9]; exact hK
  exact W.vret hx hb hr (fun t ht hW => ⟨⟨u9, rfl, trivial, by rw [ht]; exact hP9, va_K.moved hW.alike hK9, hD9⟩, hS.F ht⟩) hS.2.2 d_X1_init_50
end
section
/-! THE CONSTRUCTORS of Reckoning and VarveClock -/
def rowsW (r : Nat → Nat) (cy : ClassId) : va_W := (List.range 51).map fun i => (r i, .inl (cy, 601, .inl (fun _ => 0)))
def va_AOA (t : FieldType) (U : State) : Prop := (Cond.arrayOver (.array t)).before #[] U = true
theorem rcI {args : Array Value} {s : State} (h : (Cond.arrayClass .int).before args s = true) : ∃ c : ClassId, s.vm.findClass "[I" = some c := by
  obtain ⟨c, k, comp, h1, h2, h3⟩ := Cond.arrayClass_spec h
  exact ⟨c, h1⟩
theorem rcU {D : va_G} {cl : List vw_C} {tys : List (ClassId × FieldType)} {U : State} {c1 c2 : ClassId} (h : va_K D cl tys U) (h2 : (c2, .int) ∈ tys) (h1 : U.vm.findClass "[I" = some c1) : c1 = c2 := by
  obtain ⟨j, hj⟩ := List.getElem?_of_mem h2
  have b : U.vm.findClass "[I" = some c2 := (h.2 j _ hj).2
  rw [h1] at b
  injection b
theorem va_AOA.moved {t : FieldType} {u U : State} (hvm : u.vm.Alike U.vm) (h : va_AOA t u) : va_AOA t U := by
  obtain ⟨comp, c, k, h1, h2, h3, h4, h5⟩ := arrayOverA_spec h
  obtain ⟨k', hk', he⟩ := hvm.2.2 _ _ h3
  have hi : (U.vm.classes.findIdx? fun (x : Class) => match x.kind with | .array component _ => component == comp | _ => false) = some c := by
    have a := va_idx_bare U.vm comp
    have b := va_idx_bare u.vm comp
    first | rw [hvm.bare_eq] at b | rw [← hvm.bare_eq] at b
    exact (a.symm.trans b).trans h2
  have hkind : k'.kind = .array comp (.array t) := by rw [he]; exact h4
  have f1 : U.vm.findClass (FieldType.array t).toString = some comp := by rw [hvm.findClass]; exact h1
  have f2 : U.vm.findClass ("[" ++ (FieldType.array t).toString) = some c := by rw [hvm.findClass]; exact h5
  unfold va_AOA Cond.before Cond.holds
  simp only [Cond.value]
  rw [f1, Option.bind_some]
  refine (congrArg (fun o : Option Nat => (o.bind (fun c => (U.vm.classes[c]?).map fun (k : Class) => match k.kind with | .array _ ty => decide (ty = FieldType.array t) && decide (U.vm.findClass ("[" ++ (FieldType.array t).toString) = some c) | _ => false) == some true)) hi).trans ?_
  simp [hk', hkind, f2]
/-- a grid of two rows: what its making owes (shown in the last part) -/
abbrev Mna : Prop := ∀ {p : Program} {l : Launch} {e : Env} {R : Room} {s : State} {m : MethodId} {args : Array Value} {below : List Frame} {meth : Method} {c : Code} {H : Heap} {locs : List Loc} {cells slots : Nat} {Q : State → Prop} {cc : ByteArray} {pc : Nat} {ls : Array Slot} {rest : List Value} {D : va_G} {cl : List vw_C} {A : Nat → Prop} {tys : List (ClassId × FieldType)} {H0 : Heap} {X : va_W} (_ : p.tables.exec = Jvm.exec) (_ : c.code = cc) {own : String} {index : Nat} {cy : ClassId} (_ : s.vm.findClass own = some m.cls) (_ : (Cond.classLink own index "[[I").before args s = true) (_ : va_AOA .int s) (_ : (Cond.arrayClass .int).before args s = true) (_ : s.vm.findClass "[I" = some cy)
    (_ : va_K D cl tys s) (_ : va_P D cl X H) (_ : va_D A X) (_ : va_S A H0 H locs) (_ : ∀ q, H0.size ≤ q → A q) (_ : cells + 52 ≤ R.cells) (_ : slots + 30702 ≤ R.slots) (_ : decode cc pc = .ok (.multianewarray index 2, 4))
    (_ : ∀ (q : Nat) (r : Nat → Nat) (cA : ClassId) (H1 : Heap), va_K D cl (tys ++ [(cA, .array .int)]) s → va_P D cl ((X ++ [(q, .inl (cA, 51, .inr (.inr (.inr (.inr (fun i => some (r i)))))))]) ++ rowsW r cy) H1 → va_D A ((X ++ [(q, .inl (cA, 51, .inr (.inr (.inr (.inr (fun i => some (r i)))))))]) ++ rowsW r cy) → va_S A H0 H1 locs →
      W p l e R s m args below meth c H1 locs (cells + 52) (slots + 30702) Q (F0 m (pc + 4) ls (.ref q :: rest))), W p l e R s m args below meth c H locs cells slots Q (F0 m pc ls (.int 601 :: .int 51 :: rest))
end
section
abbrev reckW (h0 cr a1 a2 : Nat) (r1 r2 f : Nat → Nat) (cG cI : ClassId) : va_W := [(h0, .inr (2, [.ref cr, .ref a1, .ref a2, .ref (f 0), .ref (f 1), .ref (f 2), .ref (f 3), .ref (f 4), .ref (f 5), .ref (f 6), .ref (f 7), .int 0, .int 0, .int 0, .int (-1)])), (a1, .inl (cG, 51, .inr (.inr (.inr (.inr (fun i => some (r1 i)))))))] ++ rowsW r1 cI ++ [(a2, .inl (cG, 51, .inr (.inr (.inr (.inr (fun i => some (r2 i)))))))] ++ rowsW r2 cI ++ [(f 0, .inl (cI, 601, .inl (fun _ => 0))), (f 1, .inl (cI, 601, .inl (fun _ => 0))), (f 2, .inl (cI, 601, .inl (fun _ => 0))), (f 3, .inl (cI, 601, .inl (fun _ => 0))), (f 4, .inl (cI, 601, .inl (fun _ => 0))), (f 5, .inl (cI, 50, .inl (fun _ => 0))), (f 6, .inl (cI, 50, .inl (fun _ => 0))), (f 7, .inl (cI, 51, .inl (fun _ => 0)))]
abbrev clockW (h0 : Nat) (a : Nat → Nat) (f : Nat → Nat → Nat) (y : Nat → ClassId) : va_W := [(h0, .inr (4, [.ref (a 0), .ref (a 1), .ref (a 2), .ref (a 3)]))] ++ coreW (a 0) (f 0) (y 0) ++ histW (a 1) (a 4) (f 1) (fun i => f (2 + i)) (y 2) (y 0) ++ scriptW (a 2) (a 5) (a 6) (f 8) (y 1) (y 0) ++ reckW (a 3) (a 0) (a 7) (a 8) (f 9) (f 10) (f 11) (y 3) (y 0)
def E4 (U : State) : Prop := va_AO RX0 U ∧ va_AOA .int U
theorem E4.moved {u U : State} (hvm : u.vm.Alike U.vm) (h : E4 u) : E4 U := ⟨va_AO.moved hvm h.1, va_AOA.moved hvm h.2⟩
set_option maxRecDepth 100000 in
theorem kw_20 : Jvm.Cond.initialized RX1 ∈ BG := bg_of 20 rfl rfl
set_option maxRecDepth 100000 in
theorem kw_21 : Jvm.Cond.initialized RX3 ∈ BG := bg_of 21 rfl rfl
set_option maxRecDepth 100000 in
theorem kw_22 : Jvm.Cond.initialized RX2 ∈ BG := bg_of 22 rfl rfl
set_option maxRecDepth 100000 in
theorem kw_30 : Jvm.Cond.methodLink RX4 1 objectInit ∈ BG := bg_of 30 rfl rfl
set_option maxRecDepth 100000 in
theorem kw_33 : Jvm.Cond.classLink RX4 7 RX0 ∈ BG := bg_of 33 rfl rfl
set_option maxRecDepth 100000 in
theorem kw_35 : Jvm.Cond.methodLink RX4 9 yX0_init ∈ BG := bg_of 35 rfl rfl
set_option maxRecDepth 100000 in
theorem kw_79 : Jvm.Cond.classLink RX4 16 RX1 ∈ BG := bg_of 79 rfl rfl
set_option maxRecDepth 100000 in
theorem kw_80 : Jvm.Cond.instantiable RX1 3 ∈ BG := bg_of 80 rfl rfl
set_option maxRecDepth 100000 in
theorem kw_81 : Jvm.Cond.methodLink RX4 18 yX1_init ∈ BG := bg_of 81 rfl rfl
set_option maxRecDepth 100000 in
theorem kw_82 : Jvm.Cond.instanceMethod yX1_init ∈ BG := bg_of 82 rfl rfl
set_option maxRecDepth 100000 in
theorem kw_99 : Jvm.Cond.classLink RX4 23 RX3 ∈ BG := bg_of 99 rfl rfl
set_option maxRecDepth 100000 in
theorem kw_100 : Jvm.Cond.instantiable RX3 4 ∈ BG := bg_of 100 rfl rfl
set_option maxRecDepth 100000 in
theorem kw_101 : Jvm.Cond.methodLink RX4 25 yX3_init ∈ BG := bg_of 101 rfl rfl
set_option maxRecDepth 100000 in
theorem kw_102 : Jvm.Cond.instanceMethod yX3_init ∈ BG := bg_of 102 rfl rfl
set_option maxRecDepth 100000 in
theorem kw_121 : Jvm.Cond.classLink RX4 30 RX2 ∈ BG := bg_of 121 rfl rfl
set_option maxRecDepth 100000 in
theorem kw_122 : Jvm.Cond.instantiable RX2 15 ∈ BG := bg_of 122 rfl rfl
set_option maxRecDepth 100000 in
theorem kw_123 : Jvm.Cond.methodLink RX4 32 yX2_init ∈ BG := bg_of 123 rfl rfl
set_option maxRecDepth 100000 in
theorem kw_124 : Jvm.Cond.instanceMethod yX2_init ∈ BG := bg_of 124 rfl rfl
set_option maxRecDepth 100000 in
theorem kw_126 : Jvm.Cond.methodLink RX2 3 objectInit ∈ BG := bg_of 126 rfl rfl
set_option maxRecDepth 100000 in
theorem kw_127 : Jvm.Cond.classLink RX2 15 "[[I" ∈ BG := bg_of 127 rfl rfl
set_option maxRecDepth 100000 in
theorem kw_129 : Jvm.Cond.fieldLink RX2 9 "VarveClock$Reckoning" "core" "LVarveClock$Core;" ∈ BG := bg_of 129 rfl rfl
set_option maxRecDepth 100000 in
theorem kw_130 : Jvm.Cond.fieldLink RX2 17 "VarveClock$Reckoning" "above" "[[I" ∈ BG := bg_of 130 rfl rfl
set_option maxRecDepth 100000 in
theorem kw_131 : Jvm.Cond.fieldLink RX2 20 "VarveClock$Reckoning" "below" "[[I" ∈ BG := bg_of 131 rfl rfl
set_option maxRecDepth 100000 in
theorem kw_132 : Jvm.Cond.fieldLink RX2 23 "VarveClock$Reckoning" "withAsh" "[I" ∈ BG := bg_of 132 rfl rfl
set_option maxRecDepth 100000 in
theorem kw_133 : Jvm.Cond.fieldLink RX2 27 "VarveClock$Reckoning" "withOwn" "[I" ∈ BG := bg_of 133 rfl rfl
set_option maxRecDepth 100000 in
theorem kw_134 : Jvm.Cond.fieldLink RX2 30 "VarveClock$Reckoning" "queue" "[I" ∈ BG := bg_of 134 rfl rfl
set_option maxRecDepth 100000 in
theorem kw_135 : Jvm.Cond.fieldLink RX2 33 "VarveClock$Reckoning" "waysHere" "[I" ∈ BG := bg_of 135 rfl rfl
set_option maxRecDepth 100000 in
theorem kw_136 : Jvm.Cond.fieldLink RX2 36 "VarveClock$Reckoning" "waysNext" "[I" ∈ BG := bg_of 136 rfl rfl
set_option maxRecDepth 100000 in
theorem kw_137 : Jvm.Cond.fieldLink RX2 39 "VarveClock$Reckoning" "bestOwn" "[I" ∈ BG := bg_of 137 rfl rfl
set_option maxRecDepth 100000 in
theorem kw_139 : Jvm.Cond.fieldLink RX2 42 "VarveClock$Reckoning" "bestMissing" "[I" ∈ BG := bg_of 139 rfl rfl
set_option maxRecDepth 100000 in
theorem kw_141 : Jvm.Cond.fieldLink RX2 45 "VarveClock$Reckoning" "bestAge" "[I" ∈ BG := bg_of 141 rfl rfl
set_option maxRecDepth 100000 in
theorem kw_143 : Jvm.Cond.fieldLink RX2 48 "VarveClock$Reckoning" "oldest" "I" ∈ BG := bg_of 143 rfl rfl
set_option maxRecDepth 100000 in
theorem kw_144 : Jvm.Cond.fieldLink RX2 52 "VarveClock$Reckoning" "belowStands" "Z" ∈ BG := bg_of 144 rfl rfl
set_option maxRecDepth 100000 in
theorem kw_145 : Jvm.Cond.fieldLink RX2 56 "VarveClock$Reckoning" "aboveStands" "Z" ∈ BG := bg_of 145 rfl rfl
set_option maxRecDepth 100000 in
theorem kw_146 : Jvm.Cond.fieldLink RX2 59 "VarveClock$Reckoning" "knownWays" "I" ∈ BG := bg_of 146 rfl rfl
set_option maxRecDepth 100000 in
theorem kw_178 : Jvm.Cond.fieldLink RX4 10 "VarveClock" "core" "LVarveClock$Core;" ∈ BG := bg_of 178 rfl rfl
set_option maxRecDepth 100000 in
theorem kw_179 : Jvm.Cond.fieldLink RX4 19 "VarveClock" "history" "LVarveClock$History;" ∈ BG := bg_of 179 rfl rfl
set_option maxRecDepth 100000 in
theorem kw_180 : Jvm.Cond.fieldLink RX4 26 "VarveClock" "script" "LVarveClock$Script;" ∈ BG := bg_of 180 rfl rfl
set_option maxRecDepth 100000 in
theorem kw_181 : Jvm.Cond.fieldLink RX4 35 "VarveClock" "reckoning" "LVarveClock$Reckoning;" ∈ BG := bg_of 181 rfl rfl
set_option maxRecDepth 100000 in
theorem kw_c1 : Jvm.Cond.code yX1_init cX1_init 2 none ∈ BG := bg_of 83 rfl rfl
set_option maxRecDepth 100000 in
theorem kw_c2 : Jvm.Cond.code yX2_init cX2_init 2 none ∈ BG := bg_of 125 rfl rfl
set_option maxRecDepth 100000 in
theorem kw_c3 : Jvm.Cond.code yX3_init cX3_init 1 none ∈ BG := bg_of 103 rfl rfl
theorem d_X2_init_0 : decode cX2_init 0 = .ok (.aload_n 0, 1) := by decide +kernel
theorem d_X2_init_1 : decode cX2_init 1 = .ok (.invokespecial 3, 3) := by decide +kernel
theorem d_X2_init_4 : decode cX2_init 4 = .ok (.aload_n 0, 1) := by decide +kernel
theorem d_X2_init_5 : decode cX2_init 5 = .ok (.aload_n 1, 1) := by decide +kernel
theorem d_X2_init_6 : decode cX2_init 6 = .ok (.putfield 9, 3) := by decide +kernel
theorem d_X2_init_9 : decode cX2_init 9 = .ok (.aload_n 0, 1) := by decide +kernel
theorem d_X2_init_10 : decode cX2_init 10 = .ok (.bipush 51, 2) := by decide +kernel
theorem d_X2_init_12 : decode cX2_init 12 = .ok (.sipush 601, 3) := by decide +kernel
theorem d_X2_init_15 : decode cX2_init 15 = .ok (.multianewarray 15 2, 4) := by decide +kernel
theorem d_X2_init_19 : decode cX2_init 19 = .ok (.putfield 17, 3) := by decide +kernel
theorem d_X2_init_22 : decode cX2_init 22 = .ok (.aload_n 0, 1) := by decide +kernel
theorem d_X2_init_23 : decode cX2_init 23 = .ok (.bipush 51, 2) := by decide +kernel
theorem d_X2_init_25 : decode cX2_init 25 = .ok (.sipush 601, 3) := by decide +kernel
theorem d_X2_init_28 : decode cX2_init 28 = .ok (.multianewarray 15 2, 4) := by decide +kernel
theorem d_X2_init_32 : decode cX2_init 32 = .ok (.putfield 20, 3) := by decide +kernel
theorem d_X2_init_35 : decode cX2_init 35 = .ok (.aload_n 0, 1) := by decide +kernel
theorem d_X2_init_36 : decode cX2_init 36 = .ok (.sipush 601, 3) := by decide +kernel
theorem d_X2_init_39 : decode cX2_init 39 = .ok (.newarray .int, 2) := by decide +kernel
theorem d_X2_init_41 : decode cX2_init 41 = .ok (.putfield 23, 3) := by decide +kernel
theorem d_X2_init_44 : decode cX2_init 44 = .ok (.aload_n 0, 1) := by decide +kernel
theorem d_X2_init_45 : decode cX2_init 45 = .ok (.sipush 601, 3) := by decide +kernel
theorem d_X2_init_48 : decode cX2_init 48 = .ok (.newarray .int, 2) := by decide +kernel
theorem d_X2_init_50 : decode cX2_init 50 = .ok (.putfield 27, 3) := by decide +kernel
theorem d_X2_init_53 : decode cX2_init 53 = .ok (.aload_n 0, 1) := by decide +kernel
theorem d_X2_init_54 : decode cX2_init 54 = .ok (.sipush 601, 3) := by decide +kernel
theorem d_X2_init_57 : decode cX2_init 57 = .ok (.newarray .int, 2) := by decide +kernel
theorem d_X2_init_59 : decode cX2_init 59 = .ok (.putfield 30, 3) := by decide +kernel
theorem d_X2_init_62 : decode cX2_init 62 = .ok (.aload_n 0, 1) := by decide +kernel
theorem d_X2_init_63 : decode cX2_init 63 = .ok (.sipush 601, 3) := by decide +kernel
theorem d_X2_init_66 : decode cX2_init 66 = .ok (.newarray .int, 2) := by decide +kernel
theorem d_X2_init_68 : decode cX2_init 68 = .ok (.putfield 33, 3) := by decide +kernel
theorem d_X2_init_71 : decode cX2_init 71 = .ok (.aload_n 0, 1) := by decide +kernel
theorem d_X2_init_72 : decode cX2_init 72 = .ok (.sipush 601, 3) := by decide +kernel
theorem d_X2_init_75 : decode cX2_init 75 = .ok (.newarray .int, 2) := by decide +kernel
theorem d_X2_init_77 : decode cX2_init 77 = .ok (.putfield 36, 3) := by decide +kernel
theorem d_X2_init_80 : decode cX2_init 80 = .ok (.aload_n 0, 1) := by decide +kernel
theorem d_X2_init_81 : decode cX2_init 81 = .ok (.bipush 50, 2) := by decide +kernel
theorem d_X2_init_83 : decode cX2_init 83 = .ok (.newarray .int, 2) := by decide +kernel
theorem d_X2_init_85 : decode cX2_init 85 = .ok (.putfield 39, 3) := by decide +kernel
theorem d_X2_init_88 : decode cX2_init 88 = .ok (.aload_n 0, 1) := by decide +kernel
theorem d_X2_init_89 : decode cX2_init 89 = .ok (.bipush 50, 2) := by decide +kernel
theorem d_X2_init_91 : decode cX2_init 91 = .ok (.newarray .int, 2) := by decide +kernel
theorem d_X2_init_93 : decode cX2_init 93 = .ok (.putfield 42, 3) := by decide +kernel
theorem d_X2_init_96 : decode cX2_init 96 = .ok (.aload_n 0, 1) := by decide +kernel
theorem d_X2_init_97 : decode cX2_init 97 = .ok (.bipush 51, 2) := by decide +kernel
theorem d_X2_init_99 : decode cX2_init 99 = .ok (.newarray .int, 2) := by decide +kernel
theorem d_X2_init_101 : decode cX2_init 101 = .ok (.putfield 45, 3) := by decide +kernel
theorem d_X2_init_104 : decode cX2_init 104 = .ok (.aload_n 0, 1) := by decide +kernel
theorem d_X2_init_105 : decode cX2_init 105 = .ok (.iconst 0, 1) := by decide +kernel
theorem d_X2_init_106 : decode cX2_init 106 = .ok (.putfield 48, 3) := by decide +kernel
theorem d_X2_init_109 : decode cX2_init 109 = .ok (.aload_n 0, 1) := by decide +kernel
theorem d_X2_init_110 : decode cX2_init 110 = .ok (.iconst 0, 1) := by decide +kernel
theorem d_X2_init_111 : decode cX2_init 111 = .ok (.putfield 52, 3) := by decide +kernel
theorem d_X2_init_114 : decode cX2_init 114 = .ok (.aload_n 0, 1) := by decide +kernel
theorem d_X2_init_115 : decode cX2_init 115 = .ok (.iconst 0, 1) := by decide +kernel
theorem d_X2_init_116 : decode cX2_init 116 = .ok (.putfield 56, 3) := by decide +kernel
theorem d_X2_init_119 : decode cX2_init 119 = .ok (.aload_n 0, 1) := by decide +kernel
theorem d_X2_init_120 : decode cX2_init 120 = .ok (.iconst (-1), 1) := by decide +kernel
theorem d_X2_init_121 : decode cX2_init 121 = .ok (.putfield 59, 3) := by decide +kernel
theorem d_X2_init_124 : decode cX2_init 124 = .ok (.return_, 1) := by decide +kernel
set_option maxHeartbeats 8000000 in
set_option maxRecDepth 100000 in
theorem k_X2_init (hG : Mna) (l : Launch) (D : va_G) (h0 : Nat) (sz : Nat) (cr : Nat) : Met l yX2_init (.code yX2_init cX2_init 2 none :: BG) ({ frames := 2, cells := 112, slots := 64560, locals := 40 }) (va_Pc [.ref h0, .ref cr] (fun U => PreK D sz [(h0, .inr (2, [.null, .null, .null, .null, .null, .null, .null, .null, .null, .null, .null, .int 0, .int 0, .int 0, .int 0]))] U ∧ (va_AOA .int) U)) (va_Qv (fun _ : (Nat → Nat) × (Nat → Nat → Nat) × (Nat → ClassId) => True) (fun u t => PostK D (va_A [(h0, .inr (2, [.null, .null, .null, .null, .null, .null, .null, .null, .null, .null, .null, .int 0, .int 0, .int 0, .int 0]))] sz) (reckW h0 cr (u.1 0) (u.1 1) (u.2.1 0) (u.2.1 1) (u.2.1 2) (u.2.2 0) (u.2.2 1)) ([(u.2.2 0, .array .int), (u.2.2 1, .int)]) t) (va_A [(h0, .inr (2, [.null, .null, .null, .null, .null, .null, .null, .null, .null, .null, .null, .int 0, .int 0, .int 0, .int 0]))] sz)) 112 64560 (va_A [(h0, .inr (2, [.null, .null, .null, .null, .null, .null, .null, .null, .null, .null, .null, .int 0, .int 0, .int 0, .int 0]))] sz) := by
  refine Met.ofW (cc := cX2_init) (maxL := 2) (ret := none) (by decide) rfl ?_
  intro p e s m args below meth c s₁ B hml hv
  obtain ⟨rfl, ⟨hsz, hP, hK, hD0⟩, hE⟩ := hv
  have hx := B.exec
  have hb := B.bytes
  have hr := B.returns
  have hts : ∀ w ∈ BG, w.before _ s = true := fun w hw => atoms_spec B.pre w (List.mem_cons_of_mem _ hw)
  have hown : s.vm.findClass RX2 = some m.cls := findClass_of_methodNamed B.named
  have hlocks := B.notSynchronized
  have hin : meth.name = "<init>" := (name_of_methodNamed B.named B.method).1
  subst hsz
  have hD := hD0.self (sz := s.heap.size)
  generalize hAe : va_A [(h0, .inr (2, [.null, .null, .null, .null, .null, .null, .null, .null, .null, .null, .null, .int 0, .int 0, .int 0, .int 0]))] s.heap.size = A at hD ⊢
  have hA : ∀ q : Nat, s.heap.size ≤ q → A q := fun q h => by rw [← hAe]; exact Or.inr h
  have hS : va_S A s.heap s.heap [] := va_S.rf
  have hl := lv_entry ([.ref h0, .ref cr]) (n := 2) (Nat.le_of_ble_eq_true rfl)
  rw [lg_entry_eq]
  generalize (lg_sl ([.ref h0, .ref cr]) ++ List.replicate (2 - (lg_sl ([.ref h0, .ref cr])).length) Slot.unset).toArray = ls at hl ⊢
  have hl : lv_has ls 2 [(0, .ref h0), (1, .ref cr)] := hl
  have hP : va_P D vwCl [(h0, .inr (2, [.null, .null, .null, .null, .null, .null, .null, .null, .null, .null, .null, .int 0, .int 0, .int 0, .int 0]))] s.heap := hP
  refine lv_aload_n hx hb d_X2_init_0 rfl (lv_at hl 0 rfl) ?_
  refine W.objInit hx hb hown (hts _ kw_126) (hts _ kw_oii) (hts _ kw_oic) rfl (by rw [hml]; exact hl.1) rfl d_X2_init_1 (Nat.le_of_ble_eq_true rfl) (Nat.le_of_ble_eq_true rfl) ?_
  refine W.eq (g2 := F0 m 4 ls []) rfl ?_
  refine lv_aload_n hx hb d_X2_init_4 rfl (lv_at hl 0 rfl) ?_
  refine lv_aload_n hx hb d_X2_init_5 rfl (lv_at hl 1 rfl) ?_
  refine va_putF (D := D) (ci := 2) (v := .ref cr) (ty := .object "VarveClock$Core") (C := RX2) (T := TX2) (N := 15) hx hb hts uw2 tyX2 tyX2_ok nmX2 hown hK hP hD hS 0 rfl rfl 0 (by decide) (hts _ kw_129) (fun _ h9 => h9) rfl hin rfl (by decide +kernel) rfl rfl (Nat.le_of_ble_eq_true rfl) d_X2_init_6 (fun H locs hP hD hS => ?_)
  have hP : va_P D vwCl ([(h0, .inr (2, [.ref cr, .null, .null, .null, .null, .null, .null, .null, .null, .null, .null, .int 0, .int 0, .int 0, .int 0]))]) H := hP
  have hD : va_D A ([(h0, .inr (2, [.ref cr, .null, .null, .null, .null, .null, .null, .null, .null, .null, .null, .int 0, .int 0, .int 0, .int 0]))]) := hD
  refine lv_aload_n hx hb d_X2_init_9 rfl (lv_at hl 0 rfl) ?_
  refine lv_bipush (v := 51) hx hb d_X2_init_10 (by decide) ?_
  refine lv_sipush (v := 601) hx hb d_X2_init_12 (by decide) ?_
  obtain ⟨cI, hcI⟩ := rcI (hts _ kw_arrI)
  refine hG hx hb hown (hts _ kw_127) hE (hts _ kw_arrI) hcI hK hP hD hS hA (Nat.le_of_ble_eq_true rfl) (Nat.le_of_ble_eq_true rfl) d_X2_init_15 (fun q1 r1 cG H hK hP hD hS => ?_)
  refine W.widen (k := 52) (n := 30702) (Nat.le_of_ble_eq_true rfl) (Nat.le_of_ble_eq_true rfl) ?_
  have hK : va_K D vwCl [(cG, .array .int)] s := hK
  have hP : va_P D vwCl ([(h0, .inr (2, [.ref cr, .null, .null, .null, .null, .null, .null, .null, .null, .null, .null, .int 0, .int 0, .int 0, .int 0])), (q1, .inl (cG, 51, .inr (.inr (.inr (.inr (fun i => some (r1 i)))))))] ++ rowsW r1 cI) H := hP
  have hD : va_D A ([(h0, .inr (2, [.ref cr, .null, .null, .null, .null, .null, .null, .null, .null, .null, .null, .int 0, .int 0, .int 0, .int 0])), (q1, .inl (cG, 51, .inr (.inr (.inr (.inr (fun i => some (r1 i)))))))] ++ rowsW r1 cI) := hD
  refine va_putF (D := D) (ci := 2) (v := .ref q1) (ty := .array (.array .int)) (C := RX2) (T := TX2) (N := 15) hx hb hts uw2 tyX2 tyX2_ok nmX2 hown hK hP hD hS 0 rfl rfl 1 (by decide) (hts _ kw_130) (fun _ h9 => h9) rfl hin rfl (by decide +kernel) rfl rfl (Nat.le_of_ble_eq_true rfl) d_X2_init_19 (fun H locs hP hD hS => ?_)
  have hP : va_P D vwCl ([(h0, .inr (2, [.ref cr, .ref q1, .null, .null, .null, .null, .null, .null, .null, .null, .null, .int 0, .int 0, .int 0, .int 0])), (q1, .inl (cG, 51, .inr (.inr (.inr (.inr (fun i => some (r1 i)))))))] ++ rowsW r1 cI) H := hP
  have hD : va_D A ([(h0, .inr (2, [.ref cr, .ref q1, .null, .null, .null, .null, .null, .null, .null, .null, .null, .int 0, .int 0, .int 0, .int 0])), (q1, .inl (cG, 51, .inr (.inr (.inr (.inr (fun i => some (r1 i)))))))] ++ rowsW r1 cI) := hD
  refine lv_aload_n hx hb d_X2_init_22 rfl (lv_at hl 0 rfl) ?_
  refine lv_bipush (v := 51) hx hb d_X2_init_23 (by decide) ?_
  refine lv_sipush (v := 601) hx hb d_X2_init_25 (by decide) ?_
  refine hG hx hb hown (hts _ kw_127) hE (hts _ kw_arrI) hcI hK hP hD hS hA (Nat.le_of_ble_eq_true rfl) (Nat.le_of_ble_eq_true rfl) d_X2_init_28 (fun q2 r2 cH H hK hP hD hS => ?_)
  refine W.widen (k := 104) (n := 61404) (Nat.le_of_ble_eq_true rfl) (Nat.le_of_ble_eq_true rfl) ?_
  have hK : va_K D vwCl [(cG, .array .int), (cH, .array .int)] s := hK
  have ey : cG = cH := tyU hK (t := .array .int) (by simp) (by simp)
  subst ey
  have hK := hK.sub (tys' := [(cG, .array .int)]) [0] rfl
  have hP : va_P D vwCl ([(h0, .inr (2, [.ref cr, .ref q1, .null, .null, .null, .null, .null, .null, .null, .null, .null, .int 0, .int 0, .int 0, .int 0])), (q1, .inl (cG, 51, .inr (.inr (.inr (.inr (fun i => some (r1 i)))))))] ++ rowsW r1 cI ++ [(q2, .inl (cG, 51, .inr (.inr (.inr (.inr (fun i => some (r2 i)))))))] ++ rowsW r2 cI) H := hP
  have hD : va_D A ([(h0, .inr (2, [.ref cr, .ref q1, .null, .null, .null, .null, .null, .null, .null, .null, .null, .int 0, .int 0, .int 0, .int 0])), (q1, .inl (cG, 51, .inr (.inr (.inr (.inr (fun i => some (r1 i)))))))] ++ rowsW r1 cI ++ [(q2, .inl (cG, 51, .inr (.inr (.inr (.inr (fun i => some (r2 i)))))))] ++ rowsW r2 cI) := hD
  refine va_putF (D := D) (ci := 2) (v := .ref q2) (ty := .array (.array .int)) (C := RX2) (T := TX2) (N := 15) hx hb hts uw2 tyX2 tyX2_ok nmX2 hown hK hP hD hS 0 rfl rfl 2 (by decide) (hts _ kw_131) (fun _ h9 => h9) rfl hin rfl (by decide +kernel) rfl rfl (Nat.le_of_ble_eq_true rfl) d_X2_init_32 (fun H locs hP hD hS => ?_)
  have hP : va_P D vwCl ([(h0, .inr (2, [.ref cr, .ref q1, .ref q2, .null, .null, .null, .null, .null, .null, .null, .null, .int 0, .int 0, .int 0, .int 0])), (q1, .inl (cG, 51, .inr (.inr (.inr (.inr (fun i => some (r1 i)))))))] ++ rowsW r1 cI ++ [(q2, .inl (cG, 51, .inr (.inr (.inr (.inr (fun i => some (r2 i)))))))] ++ rowsW r2 cI) H := hP
  have hD : va_D A ([(h0, .inr (2, [.ref cr, .ref q1, .ref q2, .null, .null, .null, .null, .null, .null, .null, .null, .int 0, .int 0, .int 0, .int 0])), (q1, .inl (cG, 51, .inr (.inr (.inr (.inr (fun i => some (r1 i)))))))] ++ rowsW r1 cI ++ [(q2, .inl (cG, 51, .inr (.inr (.inr (.inr (fun i => some (r2 i)))))))] ++ rowsW r2 cI) := hD
  refine lv_aload_n hx hb d_X2_init_35 rfl (lv_at hl 0 rfl) ?_
  refine lv_sipush (v := 601) hx hb d_X2_init_36 (by decide) ?_
  refine va_newa (atype := .int) (ty := .int) (N' := 601) (a0 := (601, .inl (fun _ => 0))) hx hb (hts _ kw_arrI) rfl hK hP hD hS hA (fun cA => rfl) (by decide) (by decide) (Nat.le_of_ble_eq_true rfl) (Nat.le_of_ble_eq_true rfl) (Nat.le_of_ble_eq_true rfl) d_X2_init_39 (fun q3 cA H hK hP hD hS => ?_)
  refine W.widen (k := 105) (n := 62005) (Nat.le_of_ble_eq_true rfl) (Nat.le_of_ble_eq_true rfl) ?_
  have hK : va_K D vwCl [(cG, .array .int), (cA, .int)] s := hK
  have ey : cI = cA := rcU hK (by simp) hcI
  subst ey
  have hP : va_P D vwCl ([(h0, .inr (2, [.ref cr, .ref q1, .ref q2, .null, .null, .null, .null, .null, .null, .null, .null, .int 0, .int 0, .int 0, .int 0])), (q1, .inl (cG, 51, .inr (.inr (.inr (.inr (fun i => some (r1 i)))))))] ++ rowsW r1 cI ++ [(q2, .inl (cG, 51, .inr (.inr (.inr (.inr (fun i => some (r2 i)))))))] ++ rowsW r2 cI ++ [(q3, .inl (cI, 601, .inl (fun _ => 0)))]) H := hP
  have hD : va_D A ([(h0, .inr (2, [.ref cr, .ref q1, .ref q2, .null, .null, .null, .null, .null, .null, .null, .null, .int 0, .int 0, .int 0, .int 0])), (q1, .inl (cG, 51, .inr (.inr (.inr (.inr (fun i => some (r1 i)))))))] ++ rowsW r1 cI ++ [(q2, .inl (cG, 51, .inr (.inr (.inr (.inr (fun i => some (r2 i)))))))] ++ rowsW r2 cI ++ [(q3, .inl (cI, 601, .inl (fun _ => 0)))]) := hD
  refine va_putF (D := D) (ci := 2) (v := .ref q3) (ty := .array .int) (C := RX2) (T := TX2) (N := 15) hx hb hts uw2 tyX2 tyX2_ok nmX2 hown hK hP hD hS 0 rfl rfl 3 (by decide) (hts _ kw_132) (fun _ h9 => h9) rfl hin rfl (by decide +kernel) rfl rfl (Nat.le_of_ble_eq_true rfl) d_X2_init_41 (fun H locs hP hD hS => ?_)
  have hP : va_P D vwCl ([(h0, .inr (2, [.ref cr, .ref q1, .ref q2, .ref q3, .null, .null, .null, .null, .null, .null, .null, .int 0, .int 0, .int 0, .int 0])), (q1, .inl (cG, 51, .inr (.inr (.inr (.inr (fun i => some (r1 i)))))))] ++ rowsW r1 cI ++ [(q2, .inl (cG, 51, .inr (.inr (.inr (.inr (fun i => some (r2 i)))))))] ++ rowsW r2 cI ++ [(q3, .inl (cI, 601, .inl (fun _ => 0)))]) H := hP
  have hD : va_D A ([(h0, .inr (2, [.ref cr, .ref q1, .ref q2, .ref q3, .null, .null, .null, .null, .null, .null, .null, .int 0, .int 0, .int 0, .int 0])), (q1, .inl (cG, 51, .inr (.inr (.inr (.inr (fun i => some (r1 i)))))))] ++ rowsW r1 cI ++ [(q2, .inl (cG, 51, .inr (.inr (.inr (.inr (fun i => some (r2 i)))))))] ++ rowsW r2 cI ++ [(q3, .inl (cI, 601, .inl (fun _ => 0)))]) := hD
  refine lv_aload_n hx hb d_X2_init_44 rfl (lv_at hl 0 rfl) ?_
  refine lv_sipush (v := 601) hx hb d_X2_init_45 (by decide) ?_
  refine va_newa (atype := .int) (ty := .int) (N' := 601) (a0 := (601, .inl (fun _ => 0))) hx hb (hts _ kw_arrI) rfl hK hP hD hS hA (fun cA => rfl) (by decide) (by decide) (Nat.le_of_ble_eq_true rfl) (Nat.le_of_ble_eq_true rfl) (Nat.le_of_ble_eq_true rfl) d_X2_init_48 (fun q4 cA H hK hP hD hS => ?_)
  refine W.widen (k := 106) (n := 62606) (Nat.le_of_ble_eq_true rfl) (Nat.le_of_ble_eq_true rfl) ?_
  have hK : va_K D vwCl [(cG, .array .int), (cI, .int), (cA, .int)] s := hK
  have ey : cI = cA := tyU hK (t := .int) (by simp) (by simp)
  subst ey
  have hK := hK.sub (tys' := [(cG, .array .int), (cI, .int)]) [0, 1] rfl
  have hP : va_P D vwCl ([(h0, .inr (2, [.ref cr, .ref q1, .ref q2, .ref q3, .null, .null, .null, .null, .null, .null, .null, .int 0, .int 0, .int 0, .int 0])), (q1, .inl (cG, 51, .inr (.inr (.inr (.inr (fun i => some (r1 i)))))))] ++ rowsW r1 cI ++ [(q2, .inl (cG, 51, .inr (.inr (.inr (.inr (fun i => some (r2 i)))))))] ++ rowsW r2 cI ++ [(q3, .inl (cI, 601, .inl (fun _ => 0))), (q4, .inl (cI, 601, .inl (fun _ => 0)))]) H := hP
  have hD : va_D A ([(h0, .inr (2, [.ref cr, .ref q1, .ref q2, .ref q3, .null, .null, .null, .null, .null, .null, .null, .int 0, .int 0, .int 0, .int 0])), (q1, .inl (cG, 51, .inr (.inr (.inr (.inr (fun i => some (r1 i)))))))] ++ rowsW r1 cI ++ [(q2, .inl (cG, 51, .inr (.inr (.inr (.inr (fun i => some (r2 i)))))))] ++ rowsW r2 cI ++ [(q3, .inl (cI, 601, .inl (fun _ => 0))), (q4, .inl (cI, 601, .inl (fun _ => 0)))]) := hD
  refine va_putF (D := D) (ci := 2) (v := .ref q4) (ty := .array .int) (C := RX2) (T := TX2) (N := 15) hx hb hts uw2 tyX2 tyX2_ok nmX2 hown hK hP hD hS 0 rfl rfl 4 (by decide) (hts _ kw_133) (fun _ h9 => h9) rfl hin rfl (by decide +kernel) rfl rfl (Nat.le_of_ble_eq_true rfl) d_X2_init_50 (fun H locs hP hD hS => ?_)
  have hP : va_P D vwCl ([(h0, .inr (2, [.ref cr, .ref q1, .ref q2, .ref q3, .ref q4, .null, .null, .null, .null, .null, .null, .int 0, .int 0, .int 0, .int 0])), (q1, .inl (cG, 51, .inr (.inr (.inr (.inr (fun i => some (r1 i)))))))] ++ rowsW r1 cI ++ [(q2, .inl (cG, 51, .inr (.inr (.inr (.inr (fun i => some (r2 i)))))))] ++ rowsW r2 cI ++ [(q3, .inl (cI, 601, .inl (fun _ => 0))), (q4, .inl (cI, 601, .inl (fun _ => 0)))]) H := hP
  have hD : va_D A ([(h0, .inr (2, [.ref cr, .ref q1, .ref q2, .ref q3, .ref q4, .null, .null, .null, .null, .null, .null, .int 0, .int 0, .int 0, .int 0])), (q1, .inl (cG, 51, .inr (.inr (.inr (.inr (fun i => some (r1 i)))))))] ++ rowsW r1 cI ++ [(q2, .inl (cG, 51, .inr (.inr (.inr (.inr (fun i => some (r2 i)))))))] ++ rowsW r2 cI ++ [(q3, .inl (cI, 601, .inl (fun _ => 0))), (q4, .inl (cI, 601, .inl (fun _ => 0)))]) := hD
  refine lv_aload_n hx hb d_X2_init_53 rfl (lv_at hl 0 rfl) ?_
  refine lv_sipush (v := 601) hx hb d_X2_init_54 (by decide) ?_
  refine va_newa (atype := .int) (ty := .int) (N' := 601) (a0 := (601, .inl (fun _ => 0))) hx hb (hts _ kw_arrI) rfl hK hP hD hS hA (fun cA => rfl) (by decide) (by decide) (Nat.le_of_ble_eq_true rfl) (Nat.le_of_ble_eq_true rfl) (Nat.le_of_ble_eq_true rfl) d_X2_init_57 (fun q5 cA H hK hP hD hS => ?_)
  refine W.widen (k := 107) (n := 63207) (Nat.le_of_ble_eq_true rfl) (Nat.le_of_ble_eq_true rfl) ?_
  have hK : va_K D vwCl [(cG, .array .int), (cI, .int), (cA, .int)] s := hK
  have ey : cI = cA := tyU hK (t := .int) (by simp) (by simp)
  subst ey
  have hK := hK.sub (tys' := [(cG, .array .int), (cI, .int)]) [0, 1] rfl
  have hP : va_P D vwCl ([(h0, .inr (2, [.ref cr, .ref q1, .ref q2, .ref q3, .ref q4, .null, .null, .null, .null, .null, .null, .int 0, .int 0, .int 0, .int 0])), (q1, .inl (cG, 51, .inr (.inr (.inr (.inr (fun i => some (r1 i)))))))] ++ rowsW r1 cI ++ [(q2, .inl (cG, 51, .inr (.inr (.inr (.inr (fun i => some (r2 i)))))))] ++ rowsW r2 cI ++ [(q3, .inl (cI, 601, .inl (fun _ => 0))), (q4, .inl (cI, 601, .inl (fun _ => 0))), (q5, .inl (cI, 601, .inl (fun _ => 0)))]) H := hP
  have hD : va_D A ([(h0, .inr (2, [.ref cr, .ref q1, .ref q2, .ref q3, .ref q4, .null, .null, .null, .null, .null, .null, .int 0, .int 0, .int 0, .int 0])), (q1, .inl (cG, 51, .inr (.inr (.inr (.inr (fun i => some (r1 i)))))))] ++ rowsW r1 cI ++ [(q2, .inl (cG, 51, .inr (.inr (.inr (.inr (fun i => some (r2 i)))))))] ++ rowsW r2 cI ++ [(q3, .inl (cI, 601, .inl (fun _ => 0))), (q4, .inl (cI, 601, .inl (fun _ => 0))), (q5, .inl (cI, 601, .inl (fun _ => 0)))]) := hD
  refine va_putF (D := D) (ci := 2) (v := .ref q5) (ty := .array .int) (C := RX2) (T := TX2) (N := 15) hx hb hts uw2 tyX2 tyX2_ok nmX2 hown hK hP hD hS 0 rfl rfl 5 (by decide) (hts _ kw_134) (fun _ h9 => h9) rfl hin rfl (by decide +kernel) rfl rfl (Nat.le_of_ble_eq_true rfl) d_X2_init_59 (fun H locs hP hD hS => ?_)
  have hP : va_P D vwCl ([(h0, .inr (2, [.ref cr, .ref q1, .ref q2, .ref q3, .ref q4, .ref q5, .null, .null, .null, .null, .null, .int 0, .int 0, .int 0, .int 0])), (q1, .inl (cG, 51, .inr (.inr (.inr (.inr (fun i => some (r1 i)))))))] ++ rowsW r1 cI ++ [(q2, .inl (cG, 51, .inr (.inr (.inr (.inr (fun i => some (r2 i)))))))] ++ rowsW r2 cI ++ [(q3, .inl (cI, 601, .inl (fun _ => 0))), (q4, .inl (cI, 601, .inl (fun _ => 0))), (q5, .inl (cI, 601, .inl (fun _ => 0)))]) H := hP
  have hD : va_D A ([(h0, .inr (2, [.ref cr, .ref q1, .ref q2, .ref q3, .ref q4, .ref q5, .null, .null, .null, .null, .null, .int 0, .int 0, .int 0, .int 0])), (q1, .inl (cG, 51, .inr (.inr (.inr (.inr (fun i => some (r1 i)))))))] ++ rowsW r1 cI ++ [(q2, .inl (cG, 51, .inr (.inr (.inr (.inr (fun i => some (r2 i)))))))] ++ rowsW r2 cI ++ [(q3, .inl (cI, 601, .inl (fun _ => 0))), (q4, .inl (cI, 601, .inl (fun _ => 0))), (q5, .inl (cI, 601, .inl (fun _ => 0)))]) := hD
  refine lv_aload_n hx hb d_X2_init_62 rfl (lv_at hl 0 rfl) ?_
  refine lv_sipush (v := 601) hx hb d_X2_init_63 (by decide) ?_
  refine va_newa (atype := .int) (ty := .int) (N' := 601) (a0 := (601, .inl (fun _ => 0))) hx hb (hts _ kw_arrI) rfl hK hP hD hS hA (fun cA => rfl) (by decide) (by decide) (Nat.le_of_ble_eq_true rfl) (Nat.le_of_ble_eq_true rfl) (Nat.le_of_ble_eq_true rfl) d_X2_init_66 (fun q6 cA H hK hP hD hS => ?_)
  refine W.widen (k := 108) (n := 63808) (Nat.le_of_ble_eq_true rfl) (Nat.le_of_ble_eq_true rfl) ?_
  have hK : va_K D vwCl [(cG, .array .int), (cI, .int), (cA, .int)] s := hK
  have ey : cI = cA := tyU hK (t := .int) (by simp) (by simp)
  subst ey
  have hK := hK.sub (tys' := [(cG, .array .int), (cI, .int)]) [0, 1] rfl
  have hP : va_P D vwCl ([(h0, .inr (2, [.ref cr, .ref q1, .ref q2, .ref q3, .ref q4, .ref q5, .null, .null, .null, .null, .null, .int 0, .int 0, .int 0, .int 0])), (q1, .inl (cG, 51, .inr (.inr (.inr (.inr (fun i => some (r1 i)))))))] ++ rowsW r1 cI ++ [(q2, .inl (cG, 51, .inr (.inr (.inr (.inr (fun i => some (r2 i)))))))] ++ rowsW r2 cI ++ [(q3, .inl (cI, 601, .inl (fun _ => 0))), (q4, .inl (cI, 601, .inl (fun _ => 0))), (q5, .inl (cI, 601, .inl (fun _ => 0))), (q6, .inl (cI, 601, .inl (fun _ => 0)))]) H := hP
  have hD : va_D A ([(h0, .inr (2, [.ref cr, .ref q1, .ref q2, .ref q3, .ref q4, .ref q5, .null, .null, .null, .null, .null, .int 0, .int 0, .int 0, .int 0])), (q1, .inl (cG, 51, .inr (.inr (.inr (.inr (fun i => some (r1 i)))))))] ++ rowsW r1 cI ++ [(q2, .inl (cG, 51, .inr (.inr (.inr (.inr (fun i => some (r2 i)))))))] ++ rowsW r2 cI ++ [(q3, .inl (cI, 601, .inl (fun _ => 0))), (q4, .inl (cI, 601, .inl (fun _ => 0))), (q5, .inl (cI, 601, .inl (fun _ => 0))), (q6, .inl (cI, 601, .inl (fun _ => 0)))]) := hD
  refine va_putF (D := D) (ci := 2) (v := .ref q6) (ty := .array .int) (C := RX2) (T := TX2) (N := 15) hx hb hts uw2 tyX2 tyX2_ok nmX2 hown hK hP hD hS 0 rfl rfl 6 (by decide) (hts _ kw_135) (fun _ h9 => h9) rfl hin rfl (by decide +kernel) rfl rfl (Nat.le_of_ble_eq_true rfl) d_X2_init_68 (fun H locs hP hD hS => ?_)
  have hP : va_P D vwCl ([(h0, .inr (2, [.ref cr, .ref q1, .ref q2, .ref q3, .ref q4, .ref q5, .ref q6, .null, .null, .null, .null, .int 0, .int 0, .int 0, .int 0])), (q1, .inl (cG, 51, .inr (.inr (.inr (.inr (fun i => some (r1 i)))))))] ++ rowsW r1 cI ++ [(q2, .inl (cG, 51, .inr (.inr (.inr (.inr (fun i => some (r2 i)))))))] ++ rowsW r2 cI ++ [(q3, .inl (cI, 601, .inl (fun _ => 0))), (q4, .inl (cI, 601, .inl (fun _ => 0))), (q5, .inl (cI, 601, .inl (fun _ => 0))), (q6, .inl (cI, 601, .inl (fun _ => 0)))]) H := hP
  have hD : va_D A ([(h0, .inr (2, [.ref cr, .ref q1, .ref q2, .ref q3, .ref q4, .ref q5, .ref q6, .null, .null, .null, .null, .int 0, .int 0, .int 0, .int 0])), (q1, .inl (cG, 51, .inr (.inr (.inr (.inr (fun i => some (r1 i)))))))] ++ rowsW r1 cI ++ [(q2, .inl (cG, 51, .inr (.inr (.inr (.inr (fun i => some (r2 i)))))))] ++ rowsW r2 cI ++ [(q3, .inl (cI, 601, .inl (fun _ => 0))), (q4, .inl (cI, 601, .inl (fun _ => 0))), (q5, .inl (cI, 601, .inl (fun _ => 0))), (q6, .inl (cI, 601, .inl (fun _ => 0)))]) := hD
  refine lv_aload_n hx hb d_X2_init_71 rfl (lv_at hl 0 rfl) ?_
  refine lv_sipush (v := 601) hx hb d_X2_init_72 (by decide) ?_
  refine va_newa (atype := .int) (ty := .int) (N' := 601) (a0 := (601, .inl (fun _ => 0))) hx hb (hts _ kw_arrI) rfl hK hP hD hS hA (fun cA => rfl) (by decide) (by decide) (Nat.le_of_ble_eq_true rfl) (Nat.le_of_ble_eq_true rfl) (Nat.le_of_ble_eq_true rfl) d_X2_init_75 (fun q7 cA H hK hP hD hS => ?_)
  refine W.widen (k := 109) (n := 64409) (Nat.le_of_ble_eq_true rfl) (Nat.le_of_ble_eq_true rfl) ?_
  have hK : va_K D vwCl [(cG, .array .int), (cI, .int), (cA, .int)] s := hK
  have ey : cI = cA := tyU hK (t := .int) (by simp) (by simp)
  subst ey
  have hK := hK.sub (tys' := [(cG, .array .int), (cI, .int)]) [0, 1] rfl
  have hP : va_P D vwCl ([(h0, .inr (2, [.ref cr, .ref q1, .ref q2, .ref q3, .ref q4, .ref q5, .ref q6, .null, .null, .null, .null, .int 0, .int 0, .int 0, .int 0])), (q1, .inl (cG, 51, .inr (.inr (.inr (.inr (fun i => some (r1 i)))))))] ++ rowsW r1 cI ++ [(q2, .inl (cG, 51, .inr (.inr (.inr (.inr (fun i => some (r2 i)))))))] ++ rowsW r2 cI ++ [(q3, .inl (cI, 601, .inl (fun _ => 0))), (q4, .inl (cI, 601, .inl (fun _ => 0))), (q5, .inl (cI, 601, .inl (fun _ => 0))), (q6, .inl (cI, 601, .inl (fun _ => 0))), (q7, .inl (cI, 601, .inl (fun _ => 0)))]) H := hP
  have hD : va_D A ([(h0, .inr (2, [.ref cr, .ref q1, .ref q2, .ref q3, .ref q4, .ref q5, .ref q6, .null, .null, .null, .null, .int 0, .int 0, .int 0, .int 0])), (q1, .inl (cG, 51, .inr (.inr (.inr (.inr (fun i => some (r1 i)))))))] ++ rowsW r1 cI ++ [(q2, .inl (cG, 51, .inr (.inr (.inr (.inr (fun i => some (r2 i)))))))] ++ rowsW r2 cI ++ [(q3, .inl (cI, 601, .inl (fun _ => 0))), (q4, .inl (cI, 601, .inl (fun _ => 0))), (q5, .inl (cI, 601, .inl (fun _ => 0))), (q6, .inl (cI, 601, .inl (fun _ => 0))), (q7, .inl (cI, 601, .inl (fun _ => 0)))]) := hD
  refine va_putF (D := D) (ci := 2) (v := .ref q7) (ty := .array .int) (C := RX2) (T := TX2) (N := 15) hx hb hts uw2 tyX2 tyX2_ok nmX2 hown hK hP hD hS 0 rfl rfl 7 (by decide) (hts _ kw_136) (fun _ h9 => h9) rfl hin rfl (by decide +kernel) rfl rfl (Nat.le_of_ble_eq_true rfl) d_X2_init_77 (fun H locs hP hD hS => ?_)
  have hP : va_P D vwCl ([(h0, .inr (2, [.ref cr, .ref q1, .ref q2, .ref q3, .ref q4, .ref q5, .ref q6, .ref q7, .null, .null, .null, .int 0, .int 0, .int 0, .int 0])), (q1, .inl (cG, 51, .inr (.inr (.inr (.inr (fun i => some (r1 i)))))))] ++ rowsW r1 cI ++ [(q2, .inl (cG, 51, .inr (.inr (.inr (.inr (fun i => some (r2 i)))))))] ++ rowsW r2 cI ++ [(q3, .inl (cI, 601, .inl (fun _ => 0))), (q4, .inl (cI, 601, .inl (fun _ => 0))), (q5, .inl (cI, 601, .inl (fun _ => 0))), (q6, .inl (cI, 601, .inl (fun _ => 0))), (q7, .inl (cI, 601, .inl (fun _ => 0)))]) H := hP
  have hD : va_D A ([(h0, .inr (2, [.ref cr, .ref q1, .ref q2, .ref q3, .ref q4, .ref q5, .ref q6, .ref q7, .null, .null, .null, .int 0, .int 0, .int 0, .int 0])), (q1, .inl (cG, 51, .inr (.inr (.inr (.inr (fun i => some (r1 i)))))))] ++ rowsW r1 cI ++ [(q2, .inl (cG, 51, .inr (.inr (.inr (.inr (fun i => some (r2 i)))))))] ++ rowsW r2 cI ++ [(q3, .inl (cI, 601, .inl (fun _ => 0))), (q4, .inl (cI, 601, .inl (fun _ => 0))), (q5, .inl (cI, 601, .inl (fun _ => 0))), (q6, .inl (cI, 601, .inl (fun _ => 0))), (q7, .inl (cI, 601, .inl (fun _ => 0)))]) := hD
  refine lv_aload_n hx hb d_X2_init_80 rfl (lv_at hl 0 rfl) ?_
  refine lv_bipush (v := 50) hx hb d_X2_init_81 (by decide) ?_
  refine va_newa (atype := .int) (ty := .int) (N' := 50) (a0 := (50, .inl (fun _ => 0))) hx hb (hts _ kw_arrI) rfl hK hP hD hS hA (fun cA => rfl) (by decide) (by decide) (Nat.le_of_ble_eq_true rfl) (Nat.le_of_ble_eq_true rfl) (Nat.le_of_ble_eq_true rfl) d_X2_init_83 (fun q8 cA H hK hP hD hS => ?_)
  refine W.widen (k := 110) (n := 64459) (Nat.le_of_ble_eq_true rfl) (Nat.le_of_ble_eq_true rfl) ?_
  have hK : va_K D vwCl [(cG, .array .int), (cI, .int), (cA, .int)] s := hK
  have ey : cI = cA := tyU hK (t := .int) (by simp) (by simp)
  subst ey
  have hK := hK.sub (tys' := [(cG, .array .int), (cI, .int)]) [0, 1] rfl
  have hP : va_P D vwCl ([(h0, .inr (2, [.ref cr, .ref q1, .ref q2, .ref q3, .ref q4, .ref q5, .ref q6, .ref q7, .null, .null, .null, .int 0, .int 0, .int 0, .int 0])), (q1, .inl (cG, 51, .inr (.inr (.inr (.inr (fun i => some (r1 i)))))))] ++ rowsW r1 cI ++ [(q2, .inl (cG, 51, .inr (.inr (.inr (.inr (fun i => some (r2 i)))))))] ++ rowsW r2 cI ++ [(q3, .inl (cI, 601, .inl (fun _ => 0))), (q4, .inl (cI, 601, .inl (fun _ => 0))), (q5, .inl (cI, 601, .inl (fun _ => 0))), (q6, .inl (cI, 601, .inl (fun _ => 0))), (q7, .inl (cI, 601, .inl (fun _ => 0))), (q8, .inl (cI, 50, .inl (fun _ => 0)))]) H := hP
  have hD : va_D A ([(h0, .inr (2, [.ref cr, .ref q1, .ref q2, .ref q3, .ref q4, .ref q5, .ref q6, .ref q7, .null, .null, .null, .int 0, .int 0, .int 0, .int 0])), (q1, .inl (cG, 51, .inr (.inr (.inr (.inr (fun i => some (r1 i)))))))] ++ rowsW r1 cI ++ [(q2, .inl (cG, 51, .inr (.inr (.inr (.inr (fun i => some (r2 i)))))))] ++ rowsW r2 cI ++ [(q3, .inl (cI, 601, .inl (fun _ => 0))), (q4, .inl (cI, 601, .inl (fun _ => 0))), (q5, .inl (cI, 601, .inl (fun _ => 0))), (q6, .inl (cI, 601, .inl (fun _ => 0))), (q7, .inl (cI, 601, .inl (fun _ => 0))), (q8, .inl (cI, 50, .inl (fun _ => 0)))]) := hD
  refine va_putF (D := D) (ci := 2) (v := .ref q8) (ty := .array .int) (C := RX2) (T := TX2) (N := 15) hx hb hts uw2 tyX2 tyX2_ok nmX2 hown hK hP hD hS 0 rfl rfl 8 (by decide) (hts _ kw_137) (fun _ h9 => h9) rfl hin rfl (by decide +kernel) rfl rfl (Nat.le_of_ble_eq_true rfl) d_X2_init_85 (fun H locs hP hD hS => ?_)
  have hP : va_P D vwCl ([(h0, .inr (2, [.ref cr, .ref q1, .ref q2, .ref q3, .ref q4, .ref q5, .ref q6, .ref q7, .ref q8, .null, .null, .int 0, .int 0, .int 0, .int 0])), (q1, .inl (cG, 51, .inr (.inr (.inr (.inr (fun i => some (r1 i)))))))] ++ rowsW r1 cI ++ [(q2, .inl (cG, 51, .inr (.inr (.inr (.inr (fun i => some (r2 i)))))))] ++ rowsW r2 cI ++ [(q3, .inl (cI, 601, .inl (fun _ => 0))), (q4, .inl (cI, 601, .inl (fun _ => 0))), (q5, .inl (cI, 601, .inl (fun _ => 0))), (q6, .inl (cI, 601, .inl (fun _ => 0))), (q7, .inl (cI, 601, .inl (fun _ => 0))), (q8, .inl (cI, 50, .inl (fun _ => 0)))]) H := hP
  have hD : va_D A ([(h0, .inr (2, [.ref cr, .ref q1, .ref q2, .ref q3, .ref q4, .ref q5, .ref q6, .ref q7, .ref q8, .null, .null, .int 0, .int 0, .int 0, .int 0])), (q1, .inl (cG, 51, .inr (.inr (.inr (.inr (fun i => some (r1 i)))))))] ++ rowsW r1 cI ++ [(q2, .inl (cG, 51, .inr (.inr (.inr (.inr (fun i => some (r2 i)))))))] ++ rowsW r2 cI ++ [(q3, .inl (cI, 601, .inl (fun _ => 0))), (q4, .inl (cI, 601, .inl (fun _ => 0))), (q5, .inl (cI, 601, .inl (fun _ => 0))), (q6, .inl (cI, 601, .inl (fun _ => 0))), (q7, .inl (cI, 601, .inl (fun _ => 0))), (q8, .inl (cI, 50, .inl (fun _ => 0)))]) := hD
  refine lv_aload_n hx hb d_X2_init_88 rfl (lv_at hl 0 rfl) ?_
  refine lv_bipush (v := 50) hx hb d_X2_init_89 (by decide) ?_
  refine va_newa (atype := .int) (ty := .int) (N' := 50) (a0 := (50, .inl (fun _ => 0))) hx hb (hts _ kw_arrI) rfl hK hP hD hS hA (fun cA => rfl) (by decide) (by decide) (Nat.le_of_ble_eq_true rfl) (Nat.le_of_ble_eq_true rfl) (Nat.le_of_ble_eq_true rfl) d_X2_init_91 (fun q9 cA H hK hP hD hS => ?_)
  refine W.widen (k := 111) (n := 64509) (Nat.le_of_ble_eq_true rfl) (Nat.le_of_ble_eq_true rfl) ?_
  have hK : va_K D vwCl [(cG, .array .int), (cI, .int), (cA, .int)] s := hK
  have ey : cI = cA := tyU hK (t := .int) (by simp) (by simp)
  subst ey
  have hK := hK.sub (tys' := [(cG, .array .int), (cI, .int)]) [0, 1] rfl
  have hP : va_P D vwCl ([(h0, .inr (2, [.ref cr, .ref q1, .ref q2, .ref q3, .ref q4, .ref q5, .ref q6, .ref q7, .ref q8, .null, .null, .int 0, .int 0, .int 0, .int 0])), (q1, .inl (cG, 51, .inr (.inr (.inr (.inr (fun i => some (r1 i)))))))] ++ rowsW r1 cI ++ [(q2, .inl (cG, 51, .inr (.inr (.inr (.inr (fun i => some (r2 i)))))))] ++ rowsW r2 cI ++ [(q3, .inl (cI, 601, .inl (fun _ => 0))), (q4, .inl (cI, 601, .inl (fun _ => 0))), (q5, .inl (cI, 601, .inl (fun _ => 0))), (q6, .inl (cI, 601, .inl (fun _ => 0))), (q7, .inl (cI, 601, .inl (fun _ => 0))), (q8, .inl (cI, 50, .inl (fun _ => 0))), (q9, .inl (cI, 50, .inl (fun _ => 0)))]) H := hP
  have hD : va_D A ([(h0, .inr (2, [.ref cr, .ref q1, .ref q2, .ref q3, .ref q4, .ref q5, .ref q6, .ref q7, .ref q8, .null, .null, .int 0, .int 0, .int 0, .int 0])), (q1, .inl (cG, 51, .inr (.inr (.inr (.inr (fun i => some (r1 i)))))))] ++ rowsW r1 cI ++ [(q2, .inl (cG, 51, .inr (.inr (.inr (.inr (fun i => some (r2 i)))))))] ++ rowsW r2 cI ++ [(q3, .inl (cI, 601, .inl (fun _ => 0))), (q4, .inl (cI, 601, .inl (fun _ => 0))), (q5, .inl (cI, 601, .inl (fun _ => 0))), (q6, .inl (cI, 601, .inl (fun _ => 0))), (q7, .inl (cI, 601, .inl (fun _ => 0))), (q8, .inl (cI, 50, .inl (fun _ => 0))), (q9, .inl (cI, 50, .inl (fun _ => 0)))]) := hD
  refine va_putF (D := D) (ci := 2) (v := .ref q9) (ty := .array .int) (C := RX2) (T := TX2) (N := 15) hx hb hts uw2 tyX2 tyX2_ok nmX2 hown hK hP hD hS 0 rfl rfl 9 (by decide) (hts _ kw_139) (fun _ h9 => h9) rfl hin rfl (by decide +kernel) rfl rfl (Nat.le_of_ble_eq_true rfl) d_X2_init_93 (fun H locs hP hD hS => ?_)
  have hP : va_P D vwCl ([(h0, .inr (2, [.ref cr, .ref q1, .ref q2, .ref q3, .ref q4, .ref q5, .ref q6, .ref q7, .ref q8, .ref q9, .null, .int 0, .int 0, .int 0, .int 0])), (q1, .inl (cG, 51, .inr (.inr (.inr (.inr (fun i => some (r1 i)))))))] ++ rowsW r1 cI ++ [(q2, .inl (cG, 51, .inr (.inr (.inr (.inr (fun i => some (r2 i)))))))] ++ rowsW r2 cI ++ [(q3, .inl (cI, 601, .inl (fun _ => 0))), (q4, .inl (cI, 601, .inl (fun _ => 0))), (q5, .inl (cI, 601, .inl (fun _ => 0))), (q6, .inl (cI, 601, .inl (fun _ => 0))), (q7, .inl (cI, 601, .inl (fun _ => 0))), (q8, .inl (cI, 50, .inl (fun _ => 0))), (q9, .inl (cI, 50, .inl (fun _ => 0)))]) H := hP
  have hD : va_D A ([(h0, .inr (2, [.ref cr, .ref q1, .ref q2, .ref q3, .ref q4, .ref q5, .ref q6, .ref q7, .ref q8, .ref q9, .null, .int 0, .int 0, .int 0, .int 0])), (q1, .inl (cG, 51, .inr (.inr (.inr (.inr (fun i => some (r1 i)))))))] ++ rowsW r1 cI ++ [(q2, .inl (cG, 51, .inr (.inr (.inr (.inr (fun i => some (r2 i)))))))] ++ rowsW r2 cI ++ [(q3, .inl (cI, 601, .inl (fun _ => 0))), (q4, .inl (cI, 601, .inl (fun _ => 0))), (q5, .inl (cI, 601, .inl (fun _ => 0))), (q6, .inl (cI, 601, .inl (fun _ => 0))), (q7, .inl (cI, 601, .inl (fun _ => 0))), (q8, .inl (cI, 50, .inl (fun _ => 0))), (q9, .inl (cI, 50, .inl (fun _ => 0)))]) := hD
  refine lv_aload_n hx hb d_X2_init_96 rfl (lv_at hl 0 rfl) ?_
  refine lv_bipush (v := 51) hx hb d_X2_init_97 (by decide) ?_
  refine va_newa (atype := .int) (ty := .int) (N' := 51) (a0 := (51, .inl (fun _ => 0))) hx hb (hts _ kw_arrI) rfl hK hP hD hS hA (fun cA => rfl) (by decide) (by decide) (Nat.le_of_ble_eq_true rfl) (Nat.le_of_ble_eq_true rfl) (Nat.le_of_ble_eq_true rfl) d_X2_init_99 (fun q10 cA H hK hP hD hS => ?_)
  refine W.widen (k := 112) (n := 64560) (Nat.le_of_ble_eq_true rfl) (Nat.le_of_ble_eq_true rfl) ?_
  have hK : va_K D vwCl [(cG, .array .int), (cI, .int), (cA, .int)] s := hK
  have ey : cI = cA := tyU hK (t := .int) (by simp) (by simp)
  subst ey
  have hK := hK.sub (tys' := [(cG, .array .int), (cI, .int)]) [0, 1] rfl
  have hP : va_P D vwCl ([(h0, .inr (2, [.ref cr, .ref q1, .ref q2, .ref q3, .ref q4, .ref q5, .ref q6, .ref q7, .ref q8, .ref q9, .null, .int 0, .int 0, .int 0, .int 0])), (q1, .inl (cG, 51, .inr (.inr (.inr (.inr (fun i => some (r1 i)))))))] ++ rowsW r1 cI ++ [(q2, .inl (cG, 51, .inr (.inr (.inr (.inr (fun i => some (r2 i)))))))] ++ rowsW r2 cI ++ [(q3, .inl (cI, 601, .inl (fun _ => 0))), (q4, .inl (cI, 601, .inl (fun _ => 0))), (q5, .inl (cI, 601, .inl (fun _ => 0))), (q6, .inl (cI, 601, .inl (fun _ => 0))), (q7, .inl (cI, 601, .inl (fun _ => 0))), (q8, .inl (cI, 50, .inl (fun _ => 0))), (q9, .inl (cI, 50, .inl (fun _ => 0))), (q10, .inl (cI, 51, .inl (fun _ => 0)))]) H := hP
  have hD : va_D A ([(h0, .inr (2, [.ref cr, .ref q1, .ref q2, .ref q3, .ref q4, .ref q5, .ref q6, .ref q7, .ref q8, .ref q9, .null, .int 0, .int 0, .int 0, .int 0])), (q1, .inl (cG, 51, .inr (.inr (.inr (.inr (fun i => some (r1 i)))))))] ++ rowsW r1 cI ++ [(q2, .inl (cG, 51, .inr (.inr (.inr (.inr (fun i => some (r2 i)))))))] ++ rowsW r2 cI ++ [(q3, .inl (cI, 601, .inl (fun _ => 0))), (q4, .inl (cI, 601, .inl (fun _ => 0))), (q5, .inl (cI, 601, .inl (fun _ => 0))), (q6, .inl (cI, 601, .inl (fun _ => 0))), (q7, .inl (cI, 601, .inl (fun _ => 0))), (q8, .inl (cI, 50, .inl (fun _ => 0))), (q9, .inl (cI, 50, .inl (fun _ => 0))), (q10, .inl (cI, 51, .inl (fun _ => 0)))]) := hD
  refine va_putF (D := D) (ci := 2) (v := .ref q10) (ty := .array .int) (C := RX2) (T := TX2) (N := 15) hx hb hts uw2 tyX2 tyX2_ok nmX2 hown hK hP hD hS 0 rfl rfl 10 (by decide) (hts _ kw_141) (fun _ h9 => h9) rfl hin rfl (by decide +kernel) rfl rfl (Nat.le_of_ble_eq_true rfl) d_X2_init_101 (fun H locs hP hD hS => ?_)
  have hP : va_P D vwCl ([(h0, .inr (2, [.ref cr, .ref q1, .ref q2, .ref q3, .ref q4, .ref q5, .ref q6, .ref q7, .ref q8, .ref q9, .ref q10, .int 0, .int 0, .int 0, .int 0])), (q1, .inl (cG, 51, .inr (.inr (.inr (.inr (fun i => some (r1 i)))))))] ++ rowsW r1 cI ++ [(q2, .inl (cG, 51, .inr (.inr (.inr (.inr (fun i => some (r2 i)))))))] ++ rowsW r2 cI ++ [(q3, .inl (cI, 601, .inl (fun _ => 0))), (q4, .inl (cI, 601, .inl (fun _ => 0))), (q5, .inl (cI, 601, .inl (fun _ => 0))), (q6, .inl (cI, 601, .inl (fun _ => 0))), (q7, .inl (cI, 601, .inl (fun _ => 0))), (q8, .inl (cI, 50, .inl (fun _ => 0))), (q9, .inl (cI, 50, .inl (fun _ => 0))), (q10, .inl (cI, 51, .inl (fun _ => 0)))]) H := hP
  have hD : va_D A ([(h0, .inr (2, [.ref cr, .ref q1, .ref q2, .ref q3, .ref q4, .ref q5, .ref q6, .ref q7, .ref q8, .ref q9, .ref q10, .int 0, .int 0, .int 0, .int 0])), (q1, .inl (cG, 51, .inr (.inr (.inr (.inr (fun i => some (r1 i)))))))] ++ rowsW r1 cI ++ [(q2, .inl (cG, 51, .inr (.inr (.inr (.inr (fun i => some (r2 i)))))))] ++ rowsW r2 cI ++ [(q3, .inl (cI, 601, .inl (fun _ => 0))), (q4, .inl (cI, 601, .inl (fun _ => 0))), (q5, .inl (cI, 601, .inl (fun _ => 0))), (q6, .inl (cI, 601, .inl (fun _ => 0))), (q7, .inl (cI, 601, .inl (fun _ => 0))), (q8, .inl (cI, 50, .inl (fun _ => 0))), (q9, .inl (cI, 50, .inl (fun _ => 0))), (q10, .inl (cI, 51, .inl (fun _ => 0)))]) := hD
  refine lv_aload_n hx hb d_X2_init_104 rfl (lv_at hl 0 rfl) ?_
  refine lv_iconst (v := 0) hx hb d_X2_init_105 (by decide) ?_
  refine va_put (D := D) (ci := 2) (v := .int 0) (ty := .int) (C := RX2) (T := TX2) (N := 15) hx hb hts uw2 tyX2 tyX2_ok nmX2 hown hK hP hD hS 0 rfl rfl 11 (by decide) (hts _ kw_143) (fun _ h9 => h9) rfl (by decide +kernel) rfl rfl (Nat.le_of_ble_eq_true rfl) d_X2_init_106 (fun H locs hP hD hS => ?_)
  have hP : va_P D vwCl ([(h0, .inr (2, [.ref cr, .ref q1, .ref q2, .ref q3, .ref q4, .ref q5, .ref q6, .ref q7, .ref q8, .ref q9, .ref q10, .int 0, .int 0, .int 0, .int 0])), (q1, .inl (cG, 51, .inr (.inr (.inr (.inr (fun i => some (r1 i)))))))] ++ rowsW r1 cI ++ [(q2, .inl (cG, 51, .inr (.inr (.inr (.inr (fun i => some (r2 i)))))))] ++ rowsW r2 cI ++ [(q3, .inl (cI, 601, .inl (fun _ => 0))), (q4, .inl (cI, 601, .inl (fun _ => 0))), (q5, .inl (cI, 601, .inl (fun _ => 0))), (q6, .inl (cI, 601, .inl (fun _ => 0))), (q7, .inl (cI, 601, .inl (fun _ => 0))), (q8, .inl (cI, 50, .inl (fun _ => 0))), (q9, .inl (cI, 50, .inl (fun _ => 0))), (q10, .inl (cI, 51, .inl (fun _ => 0)))]) H := hP
  have hD : va_D A ([(h0, .inr (2, [.ref cr, .ref q1, .ref q2, .ref q3, .ref q4, .ref q5, .ref q6, .ref q7, .ref q8, .ref q9, .ref q10, .int 0, .int 0, .int 0, .int 0])), (q1, .inl (cG, 51, .inr (.inr (.inr (.inr (fun i => some (r1 i)))))))] ++ rowsW r1 cI ++ [(q2, .inl (cG, 51, .inr (.inr (.inr (.inr (fun i => some (r2 i)))))))] ++ rowsW r2 cI ++ [(q3, .inl (cI, 601, .inl (fun _ => 0))), (q4, .inl (cI, 601, .inl (fun _ => 0))), (q5, .inl (cI, 601, .inl (fun _ => 0))), (q6, .inl (cI, 601, .inl (fun _ => 0))), (q7, .inl (cI, 601, .inl (fun _ => 0))), (q8, .inl (cI, 50, .inl (fun _ => 0))), (q9, .inl (cI, 50, .inl (fun _ => 0))), (q10, .inl (cI, 51, .inl (fun _ => 0)))]) := hD
  refine lv_aload_n hx hb d_X2_init_109 rfl (lv_at hl 0 rfl) ?_
  refine lv_iconst (v := 0) hx hb d_X2_init_110 (by decide) ?_
  refine va_put (D := D) (ci := 2) (v := .int 0) (ty := .boolean) (C := RX2) (T := TX2) (N := 15) hx hb hts uw2 tyX2 tyX2_ok nmX2 hown hK hP hD hS 0 rfl rfl 12 (by decide) (hts _ kw_144) (fun _ h9 => h9) rfl (by decide +kernel) rfl rfl (Nat.le_of_ble_eq_true rfl) d_X2_init_111 (fun H locs hP hD hS => ?_)
  have hP : va_P D vwCl ([(h0, .inr (2, [.ref cr, .ref q1, .ref q2, .ref q3, .ref q4, .ref q5, .ref q6, .ref q7, .ref q8, .ref q9, .ref q10, .int 0, .int 0, .int 0, .int 0])), (q1, .inl (cG, 51, .inr (.inr (.inr (.inr (fun i => some (r1 i)))))))] ++ rowsW r1 cI ++ [(q2, .inl (cG, 51, .inr (.inr (.inr (.inr (fun i => some (r2 i)))))))] ++ rowsW r2 cI ++ [(q3, .inl (cI, 601, .inl (fun _ => 0))), (q4, .inl (cI, 601, .inl (fun _ => 0))), (q5, .inl (cI, 601, .inl (fun _ => 0))), (q6, .inl (cI, 601, .inl (fun _ => 0))), (q7, .inl (cI, 601, .inl (fun _ => 0))), (q8, .inl (cI, 50, .inl (fun _ => 0))), (q9, .inl (cI, 50, .inl (fun _ => 0))), (q10, .inl (cI, 51, .inl (fun _ => 0)))]) H := hP
  have hD : va_D A ([(h0, .inr (2, [.ref cr, .ref q1, .ref q2, .ref q3, .ref q4, .ref q5, .ref q6, .ref q7, .ref q8, .ref q9, .ref q10, .int 0, .int 0, .int 0, .int 0])), (q1, .inl (cG, 51, .inr (.inr (.inr (.inr (fun i => some (r1 i)))))))] ++ rowsW r1 cI ++ [(q2, .inl (cG, 51, .inr (.inr (.inr (.inr (fun i => some (r2 i)))))))] ++ rowsW r2 cI ++ [(q3, .inl (cI, 601, .inl (fun _ => 0))), (q4, .inl (cI, 601, .inl (fun _ => 0))), (q5, .inl (cI, 601, .inl (fun _ => 0))), (q6, .inl (cI, 601, .inl (fun _ => 0))), (q7, .inl (cI, 601, .inl (fun _ => 0))), (q8, .inl (cI, 50, .inl (fun _ => 0))), (q9, .inl (cI, 50, .inl (fun _ => 0))), (q10, .inl (cI, 51, .inl (fun _ => 0)))]) := hD
  refine lv_aload_n hx hb d_X2_init_114 rfl (lv_at hl 0 rfl) ?_
  refine lv_iconst (v := 0) hx hb d_X2_init_115 (by decide) ?_
  refine va_put (D := D) (ci := 2) (v := .int 0) (ty := .boolean) (C := RX2) (T := TX2) (N := 15) hx hb hts uw2 tyX2 tyX2_ok nmX2 hown hK hP hD hS 0 rfl rfl 13 (by decide) (hts _ kw_145) (fun _ h9 => h9) rfl (by decide +kernel) rfl rfl (Nat.le_of_ble_eq_true rfl) d_X2_init_116 (fun H locs hP hD hS => ?_)
  have hP : va_P D vwCl ([(h0, .inr (2, [.ref cr, .ref q1, .ref q2, .ref q3, .ref q4, .ref q5, .ref q6, .ref q7, .ref q8, .ref q9, .ref q10, .int 0, .int 0, .int 0, .int 0])), (q1, .inl (cG, 51, .inr (.inr (.inr (.inr (fun i => some (r1 i)))))))] ++ rowsW r1 cI ++ [(q2, .inl (cG, 51, .inr (.inr (.inr (.inr (fun i => some (r2 i)))))))] ++ rowsW r2 cI ++ [(q3, .inl (cI, 601, .inl (fun _ => 0))), (q4, .inl (cI, 601, .inl (fun _ => 0))), (q5, .inl (cI, 601, .inl (fun _ => 0))), (q6, .inl (cI, 601, .inl (fun _ => 0))), (q7, .inl (cI, 601, .inl (fun _ => 0))), (q8, .inl (cI, 50, .inl (fun _ => 0))), (q9, .inl (cI, 50, .inl (fun _ => 0))), (q10, .inl (cI, 51, .inl (fun _ => 0)))]) H := hP
  have hD : va_D A ([(h0, .inr (2, [.ref cr, .ref q1, .ref q2, .ref q3, .ref q4, .ref q5, .ref q6, .ref q7, .ref q8, .ref q9, .ref q10, .int 0, .int 0, .int 0, .int 0])), (q1, .inl (cG, 51, .inr (.inr (.inr (.inr (fun i => some (r1 i)))))))] ++ rowsW r1 cI ++ [(q2, .inl (cG, 51, .inr (.inr (.inr (.inr (fun i => some (r2 i)))))))] ++ rowsW r2 cI ++ [(q3, .inl (cI, 601, .inl (fun _ => 0))), (q4, .inl (cI, 601, .inl (fun _ => 0))), (q5, .inl (cI, 601, .inl (fun _ => 0))), (q6, .inl (cI, 601, .inl (fun _ => 0))), (q7, .inl (cI, 601, .inl (fun _ => 0))), (q8, .inl (cI, 50, .inl (fun _ => 0))), (q9, .inl (cI, 50, .inl (fun _ => 0))), (q10, .inl (cI, 51, .inl (fun _ => 0)))]) := hD
  refine lv_aload_n hx hb d_X2_init_119 rfl (lv_at hl 0 rfl) ?_
  refine lv_iconst (v := (-1)) hx hb d_X2_init_120 (by decide) ?_
  refine va_put (D := D) (ci := 2) (v := .int (-1)) (ty := .int) (C := RX2) (T := TX2) (N := 15) hx hb hts uw2 tyX2 tyX2_ok nmX2 hown hK hP hD hS 0 rfl rfl 14 (by decide) (hts _ kw_146) (fun _ h9 => h9) rfl (by decide +kernel) rfl rfl (Nat.le_of_ble_eq_true rfl) d_X2_init_121 (fun H locs hP hD hS => ?_)
  have hP : va_P D vwCl ([(h0, .inr (2, [.ref cr, .ref q1, .ref q2, .ref q3, .ref q4, .ref q5, .ref q6, .ref q7, .ref q8, .ref q9, .ref q10, .int 0, .int 0, .int 0, .int (-1)])), (q1, .inl (cG, 51, .inr (.inr (.inr (.inr (fun i => some (r1 i)))))))] ++ rowsW r1 cI ++ [(q2, .inl (cG, 51, .inr (.inr (.inr (.inr (fun i => some (r2 i)))))))] ++ rowsW r2 cI ++ [(q3, .inl (cI, 601, .inl (fun _ => 0))), (q4, .inl (cI, 601, .inl (fun _ => 0))), (q5, .inl (cI, 601, .inl (fun _ => 0))), (q6, .inl (cI, 601, .inl (fun _ => 0))), (q7, .inl (cI, 601, .inl (fun _ => 0))), (q8, .inl (cI, 50, .inl (fun _ => 0))), (q9, .inl (cI, 50, .inl (fun _ => 0))), (q10, .inl (cI, 51, .inl (fun _ => 0)))]) H := hP
  have hD : va_D A ([(h0, .inr (2, [.ref cr, .ref q1, .ref q2, .ref q3, .ref q4, .ref q5, .ref q6, .ref q7, .ref q8, .ref q9, .ref q10, .int 0, .int 0, .int 0, .int (-1)])), (q1, .inl (cG, 51, .inr (.inr (.inr (.inr (fun i => some (r1 i)))))))] ++ rowsW r1 cI ++ [(q2, .inl (cG, 51, .inr (.inr (.inr (.inr (fun i => some (r2 i)))))))] ++ rowsW r2 cI ++ [(q3, .inl (cI, 601, .inl (fun _ => 0))), (q4, .inl (cI, 601, .inl (fun _ => 0))), (q5, .inl (cI, 601, .inl (fun _ => 0))), (q6, .inl (cI, 601, .inl (fun _ => 0))), (q7, .inl (cI, 601, .inl (fun _ => 0))), (q8, .inl (cI, 50, .inl (fun _ => 0))), (q9, .inl (cI, 50, .inl (fun _ => 0))), (q10, .inl (cI, 51, .inl (fun _ => 0)))]) := hD
  obtain ⟨u9, eu9⟩ : ∃ u : (Nat → Nat) × (Nat → Nat → Nat) × (Nat → ClassId), u = ((fun i : Nat => [q1, q2].getD i 0), (fun i : Nat => [r1, r2, (fun i : Nat => [q3, q4, q5, q6, q7, q8, q9, q10].getD i 0)].getD i r1), (fun i : Nat => [cG, cI].getD i cI)) := ⟨_, rfl⟩
  have hP9 : va_P D vwCl (reckW h0 cr (u9.1 0) (u9.1 1) (u9.2.1 0) (u9.2.1 1) (u9.2.1 2) (u9.2.2 0) (u9.2.2 1)) H := by rw [eu9]; exact hP
  have hD9 : va_D A (reckW h0 cr (u9.1 0) (u9.1 1) (u9.2.1 0) (u9.2.1 1) (u9.2.1 2) (u9.2.2 0) (u9.2.2 1)) := by rw [eu9]; exact hD
  have hK9 : va_K D vwCl ([(u9.2.2 0, .array .int), (u9.2.2 1, .int)]) s := by rw [eu9]; exact hK
  exact W.vret hx hb hr (fun t ht hW => ⟨⟨u9, rfl, trivial, by rw [ht]; exact hP9, va_K.moved hW.alike hK9, hD9⟩, hS.F ht⟩) hS.2.2 d_X2_init_124
theorem d_X4_init_0 : decode cX4_init 0 = .ok (.aload_n 0, 1) := by decide +kernel
theorem d_X4_init_1 : decode cX4_init 1 = .ok (.invokespecial 1, 3) := by decide +kernel
theorem d_X4_init_4 : decode cX4_init 4 = .ok (.aload_n 0, 1) := by decide +kernel
theorem d_X4_init_5 : decode cX4_init 5 = .ok (.new 7, 3) := by decide +kernel
theorem d_X4_init_8 : decode cX4_init 8 = .ok (.dup, 1) := by decide +kernel
theorem d_X4_init_9 : decode cX4_init 9 = .ok (.invokespecial 9, 3) := by decide +kernel
theorem d_X4_init_12 : decode cX4_init 12 = .ok (.putfield 10, 3) := by decide +kernel
theorem d_X4_init_15 : decode cX4_init 15 = .ok (.aload_n 0, 1) := by decide +kernel
theorem d_X4_init_16 : decode cX4_init 16 = .ok (.new 16, 3) := by decide +kernel
theorem d_X4_init_19 : decode cX4_init 19 = .ok (.dup, 1) := by decide +kernel
theorem d_X4_init_20 : decode cX4_init 20 = .ok (.invokespecial 18, 3) := by decide +kernel
theorem d_X4_init_23 : decode cX4_init 23 = .ok (.putfield 19, 3) := by decide +kernel
theorem d_X4_init_26 : decode cX4_init 26 = .ok (.aload_n 0, 1) := by decide +kernel
theorem d_X4_init_27 : decode cX4_init 27 = .ok (.new 23, 3) := by decide +kernel
theorem d_X4_init_30 : decode cX4_init 30 = .ok (.dup, 1) := by decide +kernel
theorem d_X4_init_31 : decode cX4_init 31 = .ok (.invokespecial 25, 3) := by decide +kernel
theorem d_X4_init_34 : decode cX4_init 34 = .ok (.putfield 26, 3) := by decide +kernel
theorem d_X4_init_37 : decode cX4_init 37 = .ok (.aload_n 0, 1) := by decide +kernel
theorem d_X4_init_38 : decode cX4_init 38 = .ok (.new 30, 3) := by decide +kernel
theorem d_X4_init_41 : decode cX4_init 41 = .ok (.dup, 1) := by decide +kernel
theorem d_X4_init_42 : decode cX4_init 42 = .ok (.aload_n 0, 1) := by decide +kernel
theorem d_X4_init_43 : decode cX4_init 43 = .ok (.getfield 10, 3) := by decide +kernel
theorem d_X4_init_46 : decode cX4_init 46 = .ok (.invokespecial 32, 3) := by decide +kernel
theorem d_X4_init_49 : decode cX4_init 49 = .ok (.putfield 35, 3) := by decide +kernel
theorem d_X4_init_52 : decode cX4_init 52 = .ok (.return_, 1) := by decide +kernel
set_option maxHeartbeats 8000000 in
set_option maxRecDepth 100000 in
theorem k_X4_init (hG : Mna) (l : Launch) (D : va_G) (h0 : Nat) (sz : Nat) : Met l yX4_init (.code yX4_init cX4_init 1 none :: BG) ({ frames := 4, cells := 181, slots := 66126, locals := 100 }) (va_Pc [.ref h0] (fun U => PreK D sz [(h0, .inr (4, [.null, .null, .null, .null]))] U ∧ E4 U)) (va_Qv (fun _ : (Nat → Nat) × (Nat → Nat → Nat) × (Nat → ClassId) => True) (fun u t => PostK D (va_A [(h0, .inr (4, [.null, .null, .null, .null]))] sz) (clockW h0 u.1 u.2.1 u.2.2) ([(u.2.2 0, .int), (u.2.2 2, .object RX0), (u.2.2 1, .char), (u.2.2 3, .array .int)]) t) (va_A [(h0, .inr (4, [.null, .null, .null, .null]))] sz)) 181 66126 (va_A [(h0, .inr (4, [.null, .null, .null, .null]))] sz) := by
  refine Met.ofW (cc := cX4_init) (maxL := 1) (ret := none) (by decide) rfl ?_
  intro p e s m args below meth c s₁ B hml hv
  obtain ⟨rfl, ⟨hsz, hP, hK, hD0⟩, hE⟩ := hv
  have hx := B.exec
  have hb := B.bytes
  have hr := B.returns
  have hts : ∀ w ∈ BG, w.before _ s = true := fun w hw => atoms_spec B.pre w (List.mem_cons_of_mem _ hw)
  have hown : s.vm.findClass RX4 = some m.cls := findClass_of_methodNamed B.named
  have hlocks := B.notSynchronized
  have hin : meth.name = "<init>" := (name_of_methodNamed B.named B.method).1
  subst hsz
  have hD := hD0.self (sz := s.heap.size)
  generalize hAe : va_A [(h0, .inr (4, [.null, .null, .null, .null]))] s.heap.size = A at hD ⊢
  have hA : ∀ q : Nat, s.heap.size ≤ q → A q := fun q h => by rw [← hAe]; exact Or.inr h
  have hS : va_S A s.heap s.heap [] := va_S.rf
  have hl := lv_entry ([.ref h0]) (n := 1) (Nat.le_of_ble_eq_true rfl)
  rw [lg_entry_eq]
  generalize (lg_sl ([.ref h0]) ++ List.replicate (1 - (lg_sl ([.ref h0])).length) Slot.unset).toArray = ls at hl ⊢
  have hl : lv_has ls 1 [(0, .ref h0)] := hl
  have hP : va_P D vwCl [(h0, .inr (4, [.null, .null, .null, .null]))] s.heap := hP
  refine lv_aload_n hx hb d_X4_init_0 rfl (lv_at hl 0 rfl) ?_
  refine W.objInit hx hb hown (hts _ kw_30) (hts _ kw_oii) (hts _ kw_oic) rfl (by rw [hml]; exact hl.1) rfl d_X4_init_1 (Nat.le_of_ble_eq_true rfl) (Nat.le_of_ble_eq_true rfl) ?_
  refine W.eq (g2 := F0 m 4 ls []) rfl ?_
  refine lv_aload_n hx hb d_X4_init_4 rfl (lv_at hl 0 rfl) ?_
  refine va_new (ci := 0) (fs := [.null, .null, .null, .null, .null, .null, .null, .int 0, .int 0]) (C := RX0) (T := TX0) (N := 9) hx hb hts uw0 tyX0 tyX0_ok hown (hts _ kw_33) (hts _ kw_34) (hts _ kw_19) hK hP hD hS hA rfl (fun j hj => by rcases (show j = 0 ∨ j = 1 ∨ j = 2 ∨ j = 3 ∨ j = 4 ∨ j = 5 ∨ j = 6 ∨ j = 7 ∨ j = 8 by omega) with rfl | rfl | rfl | rfl | rfl | rfl | rfl | rfl | rfl <;> rfl) (Nat.le_of_ble_eq_true rfl) (Nat.le_of_ble_eq_true rfl) d_X4_init_5 (fun q1 H hP hD hS => ?_)
  refine W.widen (k := 1) (n := 9) (Nat.le_of_ble_eq_true rfl) (Nat.le_of_ble_eq_true rfl) ?_
  have hP : va_P D vwCl ([(h0, .inr (4, [.null, .null, .null, .null])), (q1, .inr (0, [.null, .null, .null, .null, .null, .null, .null, .int 0, .int 0]))]) H := hP
  have hD : va_D A ([(h0, .inr (4, [.null, .null, .null, .null])), (q1, .inr (0, [.null, .null, .null, .null, .null, .null, .null, .int 0, .int 0]))]) := hD
  refine lv_dup hx hb d_X4_init_8 rfl ?_
  have hP : va_P D vwCl (([(h0, .inr (4, [.null, .null, .null, .null]))]) ++ [(q1, .inr (0, [.null, .null, .null, .null, .null, .null, .null, .int 0, .int 0]))]) H := hP
  have hD : va_D A (([(h0, .inr (4, [.null, .null, .null, .null]))]) ++ [(q1, .inr (0, [.null, .null, .null, .null, .null, .null, .null, .int 0, .int 0]))]) := hD
  have hPc := va_PR hP
  have hDc := va_DR hD
  have hKc := hK.sub (tys' := []) [] rfl
  have hFc := va_freeA hD hS hA
  refine va_callv (va_runI (As := []) (rest := [.ref q1, .ref h0]) ⟨hx, hb, hml, hown, hts⟩ (k_X0_init l D q1 H.size) (cwI 0 hts (bg_sub (fun w hw => by rcases List.mem_cons.mp hw with rfl | hw; exact kw_c0; exact hw)) rfl rfl rfl (hts _ kw_19) (hts _ kw_35) (hts _ kw_36) rfl (by decide +kernel) ⟨(Nat.le_of_ble_eq_true rfl), (Nat.le_of_ble_eq_true rfl)⟩) ⟨fun a U g mk q => ⟨q.1, ⟨q.2.1.1, q.2.1.2.1, va_K.moved (u := U) (U := U.calling g mk a) (Vm.Alike.refl U.vm) q.2.1.2.2.1, q.2.1.2.2.2⟩, noE.moved (u := U) (U := U.calling g mk a) (Vm.Alike.refl U.vm) q.2.2⟩, fun U hU hW => ⟨rfl, ⟨by rw [hU], by rw [hU]; exact hPc, va_K.moved hW.alike hKc, hDc.weaken (fun _ _ _ _ => trivial)⟩, noE.moved hW.alike trivial⟩⟩ rfl rfl hl.1 rfl (lv_room (Nat.le_of_ble_eq_true rfl)) d_X4_init_9 ⟨(Nat.le_of_ble_eq_true rfl), (Nat.le_of_ble_eq_true rfl)⟩) hS (fun q _ h => hFc q h) hFc (fun u t H1 locs ht hvm hw hB hz1 hk1 hS => ?_)
  obtain ⟨r2, cI2⟩ := u
  obtain ⟨hP1, hK1, hD1⟩ := hB
  rw [ht] at hP1
  have hK1 := va_K.moved hvm.symm hK1
  obtain ⟨hP, hD⟩ := va_joinA hP hD hk1 hFc hP1 hD1
  generalize H1 = H at hP hS ⊢
  refine W.widen (k := 8) (n := 181) (Nat.le_of_ble_eq_true rfl) (Nat.le_of_ble_eq_true rfl) ?_
  have hK := hK.app hK1
  have hK : va_K D vwCl [(cI2, .int)] s := hK
  have hK := hK.sub (tys' := [(cI2, .int)]) [0] rfl
  have hP : va_P D vwCl ([(h0, .inr (4, [.null, .null, .null, .null]))] ++ coreW q1 r2 cI2) H := hP
  have hD : va_D A ([(h0, .inr (4, [.null, .null, .null, .null]))] ++ coreW q1 r2 cI2) := hD
  refine va_putF (D := D) (ci := 4) (v := .ref q1) (ty := .object "VarveClock$Core") (C := RX4) (T := TX4) (N := 4) hx hb hts uw4 tyX4 tyX4_ok nmX4 hown hK hP hD hS 0 rfl rfl 0 (by decide) (hts _ kw_178) (fun _ h9 => h9) rfl hin rfl (by decide +kernel) rfl rfl (Nat.le_of_ble_eq_true rfl) d_X4_init_12 (fun H locs hP hD hS => ?_)
  have hP : va_P D vwCl ([(h0, .inr (4, [.ref q1, .null, .null, .null]))] ++ coreW q1 r2 cI2) H := hP
  have hD : va_D A ([(h0, .inr (4, [.ref q1, .null, .null, .null]))] ++ coreW q1 r2 cI2) := hD
  refine lv_aload_n hx hb d_X4_init_15 rfl (lv_at hl 0 rfl) ?_
  refine va_new (ci := 1) (fs := [.null, .int 0, .int 0]) (C := RX1) (T := TX1) (N := 3) hx hb hts uw1 tyX1 tyX1_ok hown (hts _ kw_79) (hts _ kw_80) (hts _ kw_20) hK hP hD hS hA rfl (fun j hj => by rcases (show j = 0 ∨ j = 1 ∨ j = 2 by omega) with rfl | rfl | rfl <;> rfl) (Nat.le_of_ble_eq_true rfl) (Nat.le_of_ble_eq_true rfl) d_X4_init_16 (fun q3 H hP hD hS => ?_)
  refine W.widen (k := 9) (n := 184) (Nat.le_of_ble_eq_true rfl) (Nat.le_of_ble_eq_true rfl) ?_
  have hP : va_P D vwCl ([(h0, .inr (4, [.ref q1, .null, .null, .null]))] ++ coreW q1 r2 cI2 ++ [(q3, .inr (1, [.null, .int 0, .int 0]))]) H := hP
  have hD : va_D A ([(h0, .inr (4, [.ref q1, .null, .null, .null]))] ++ coreW q1 r2 cI2 ++ [(q3, .inr (1, [.null, .int 0, .int 0]))]) := hD
  refine lv_dup hx hb d_X4_init_19 rfl ?_
  have hP : va_P D vwCl (([(h0, .inr (4, [.ref q1, .null, .null, .null]))] ++ coreW q1 r2 cI2) ++ [(q3, .inr (1, [.null, .int 0, .int 0]))]) H := hP
  have hD : va_D A (([(h0, .inr (4, [.ref q1, .null, .null, .null]))] ++ coreW q1 r2 cI2) ++ [(q3, .inr (1, [.null, .int 0, .int 0]))]) := hD
  have hPc := va_PR hP
  have hDc := va_DR hD
  have hKc := hK.sub (tys' := []) [] rfl
  have hFc := va_freeA hD hS hA
  refine va_callv (va_runI (As := []) (rest := [.ref q3, .ref h0]) ⟨hx, hb, hml, hown, hts⟩ (k_X1_init l D q3 H.size) (cwI 0 hts (bg_sub (fun w hw => by rcases List.mem_cons.mp hw with rfl | hw; exact kw_c1; exact hw)) rfl rfl rfl (hts _ kw_20) (hts _ kw_81) (hts _ kw_82) rfl (by decide +kernel) ⟨(Nat.le_of_ble_eq_true rfl), (Nat.le_of_ble_eq_true rfl)⟩) ⟨fun a U g mk q => ⟨q.1, ⟨q.2.1.1, q.2.1.2.1, va_K.moved (u := U) (U := U.calling g mk a) (Vm.Alike.refl U.vm) q.2.1.2.2.1, q.2.1.2.2.2⟩, va_AO.moved (u := U) (U := U.calling g mk a) (Vm.Alike.refl U.vm) q.2.2⟩, fun U hU hW => ⟨rfl, ⟨by rw [hU], by rw [hU]; exact hPc, va_K.moved hW.alike hKc, hDc.weaken (fun _ _ _ _ => trivial)⟩, va_AO.moved hW.alike hE.1⟩⟩ rfl rfl hl.1 rfl (lv_room (Nat.le_of_ble_eq_true rfl)) d_X4_init_20 ⟨(Nat.le_of_ble_eq_true rfl), (Nat.le_of_ble_eq_true rfl)⟩) hS (fun q _ h => hFc q h) hFc (fun u t H1 locs ht hvm hw hB hz1 hk1 hS => ?_)
  obtain ⟨ha4, hq4, hr4, hS4, hI4⟩ := u
  obtain ⟨hP1, hK1, hD1⟩ := hB
  rw [ht] at hP1
  have hK1 := va_K.moved hvm.symm hK1
  obtain ⟨hP, hD⟩ := va_joinA hP hD hk1 hFc hP1 hD1
  generalize H1 = H at hP hS ⊢
  refine W.widen (k := 58) (n := 1276) (Nat.le_of_ble_eq_true rfl) (Nat.le_of_ble_eq_true rfl) ?_
  have hK := hK.app hK1
  have hK : va_K D vwCl [(cI2, .int), (hS4, .object RX0), (hI4, .int)] s := hK
  have ey : cI2 = hI4 := tyU hK (t := .int) (by simp) (by simp)
  subst ey
  have hK := hK.sub (tys' := [(cI2, .int), (hS4, .object RX0)]) [0, 1] rfl
  have hP : va_P D vwCl ([(h0, .inr (4, [.ref q1, .null, .null, .null]))] ++ coreW q1 r2 cI2 ++ histW q3 ha4 hq4 hr4 hS4 cI2) H := hP
  have hD : va_D A ([(h0, .inr (4, [.ref q1, .null, .null, .null]))] ++ coreW q1 r2 cI2 ++ histW q3 ha4 hq4 hr4 hS4 cI2) := hD
  refine va_putF (D := D) (ci := 4) (v := .ref q3) (ty := .object "VarveClock$History") (C := RX4) (T := TX4) (N := 4) hx hb hts uw4 tyX4 tyX4_ok nmX4 hown hK hP hD hS 0 rfl rfl 1 (by decide) (hts _ kw_179) (fun _ h9 => h9) rfl hin rfl (by decide +kernel) rfl rfl (Nat.le_of_ble_eq_true rfl) d_X4_init_23 (fun H locs hP hD hS => ?_)
  have hP : va_P D vwCl ([(h0, .inr (4, [.ref q1, .ref q3, .null, .null]))] ++ coreW q1 r2 cI2 ++ histW q3 ha4 hq4 hr4 hS4 cI2) H := hP
  have hD : va_D A ([(h0, .inr (4, [.ref q1, .ref q3, .null, .null]))] ++ coreW q1 r2 cI2 ++ histW q3 ha4 hq4 hr4 hS4 cI2) := hD
  refine lv_aload_n hx hb d_X4_init_26 rfl (lv_at hl 0 rfl) ?_
  refine va_new (ci := 3) (fs := [.null, .null, .int 0, .int 0]) (C := RX3) (T := TX3) (N := 4) hx hb hts uw3 tyX3 tyX3_ok hown (hts _ kw_99) (hts _ kw_100) (hts _ kw_21) hK hP hD hS hA rfl (fun j hj => by rcases (show j = 0 ∨ j = 1 ∨ j = 2 ∨ j = 3 by omega) with rfl | rfl | rfl | rfl <;> rfl) (Nat.le_of_ble_eq_true rfl) (Nat.le_of_ble_eq_true rfl) d_X4_init_27 (fun q5 H hP hD hS => ?_)
  refine W.widen (k := 59) (n := 1280) (Nat.le_of_ble_eq_true rfl) (Nat.le_of_ble_eq_true rfl) ?_
  have hP : va_P D vwCl ([(h0, .inr (4, [.ref q1, .ref q3, .null, .null]))] ++ coreW q1 r2 cI2 ++ histW q3 ha4 hq4 hr4 hS4 cI2 ++ [(q5, .inr (3, [.null, .null, .int 0, .int 0]))]) H := hP
  have hD : va_D A ([(h0, .inr (4, [.ref q1, .ref q3, .null, .null]))] ++ coreW q1 r2 cI2 ++ histW q3 ha4 hq4 hr4 hS4 cI2 ++ [(q5, .inr (3, [.null, .null, .int 0, .int 0]))]) := hD
  refine lv_dup hx hb d_X4_init_30 rfl ?_
  have hP : va_P D vwCl (([(h0, .inr (4, [.ref q1, .ref q3, .null, .null]))] ++ coreW q1 r2 cI2 ++ histW q3 ha4 hq4 hr4 hS4 cI2) ++ [(q5, .inr (3, [.null, .null, .int 0, .int 0]))]) H := hP
  have hD : va_D A (([(h0, .inr (4, [.ref q1, .ref q3, .null, .null]))] ++ coreW q1 r2 cI2 ++ histW q3 ha4 hq4 hr4 hS4 cI2) ++ [(q5, .inr (3, [.null, .null, .int 0, .int 0]))]) := hD
  have hPc := va_PR hP
  have hDc := va_DR hD
  have hKc := hK.sub (tys' := []) [] rfl
  have hFc := va_freeA hD hS hA
  refine va_callv (va_runI (As := []) (rest := [.ref q5, .ref h0]) ⟨hx, hb, hml, hown, hts⟩ (k_X3_init l D q5 H.size) (cwI 0 hts (bg_sub (fun w hw => by rcases List.mem_cons.mp hw with rfl | hw; exact kw_c3; exact hw)) rfl rfl rfl (hts _ kw_21) (hts _ kw_101) (hts _ kw_102) rfl (by decide +kernel) ⟨(Nat.le_of_ble_eq_true rfl), (Nat.le_of_ble_eq_true rfl)⟩) ⟨fun a U g mk q => ⟨q.1, ⟨q.2.1.1, q.2.1.2.1, va_K.moved (u := U) (U := U.calling g mk a) (Vm.Alike.refl U.vm) q.2.1.2.2.1, q.2.1.2.2.2⟩, noE.moved (u := U) (U := U.calling g mk a) (Vm.Alike.refl U.vm) q.2.2⟩, fun U hU hW => ⟨rfl, ⟨by rw [hU], by rw [hU]; exact hPc, va_K.moved hW.alike hKc, hDc.weaken (fun _ _ _ _ => trivial)⟩, noE.moved hW.alike trivial⟩⟩ rfl rfl hl.1 rfl (lv_room (Nat.le_of_ble_eq_true rfl)) d_X4_init_31 ⟨(Nat.le_of_ble_eq_true rfl), (Nat.le_of_ble_eq_true rfl)⟩) hS (fun q _ h => hFc q h) hFc (fun u t H1 locs ht hvm hw hB hz1 hk1 hS => ?_)
  obtain ⟨sa6, sb6, sr6, sC6, sI6⟩ := u
  obtain ⟨hP1, hK1, hD1⟩ := hB
  rw [ht] at hP1
  have hK1 := va_K.moved hvm.symm hK1
  obtain ⟨hP, hD⟩ := va_joinA hP hD hk1 hFc hP1 hD1
  generalize H1 = H at hP hS ⊢
  refine W.widen (k := 68) (n := 1551) (Nat.le_of_ble_eq_true rfl) (Nat.le_of_ble_eq_true rfl) ?_
  have hK := hK.app hK1
  have hK : va_K D vwCl [(cI2, .int), (hS4, .object RX0), (sC6, .char), (sI6, .int)] s := hK
  have ey : cI2 = sI6 := tyU hK (t := .int) (by simp) (by simp)
  subst ey
  have hK := hK.sub (tys' := [(cI2, .int), (hS4, .object RX0), (sC6, .char)]) [0, 1, 2] rfl
  have hP : va_P D vwCl ([(h0, .inr (4, [.ref q1, .ref q3, .null, .null]))] ++ coreW q1 r2 cI2 ++ histW q3 ha4 hq4 hr4 hS4 cI2 ++ scriptW q5 sa6 sb6 sr6 sC6 cI2) H := hP
  have hD : va_D A ([(h0, .inr (4, [.ref q1, .ref q3, .null, .null]))] ++ coreW q1 r2 cI2 ++ histW q3 ha4 hq4 hr4 hS4 cI2 ++ scriptW q5 sa6 sb6 sr6 sC6 cI2) := hD
  refine va_putF (D := D) (ci := 4) (v := .ref q5) (ty := .object "VarveClock$Script") (C := RX4) (T := TX4) (N := 4) hx hb hts uw4 tyX4 tyX4_ok nmX4 hown hK hP hD hS 0 rfl rfl 2 (by decide) (hts _ kw_180) (fun _ h9 => h9) rfl hin rfl (by decide +kernel) rfl rfl (Nat.le_of_ble_eq_true rfl) d_X4_init_34 (fun H locs hP hD hS => ?_)
  have hP : va_P D vwCl ([(h0, .inr (4, [.ref q1, .ref q3, .ref q5, .null]))] ++ coreW q1 r2 cI2 ++ histW q3 ha4 hq4 hr4 hS4 cI2 ++ scriptW q5 sa6 sb6 sr6 sC6 cI2) H := hP
  have hD : va_D A ([(h0, .inr (4, [.ref q1, .ref q3, .ref q5, .null]))] ++ coreW q1 r2 cI2 ++ histW q3 ha4 hq4 hr4 hS4 cI2 ++ scriptW q5 sa6 sb6 sr6 sC6 cI2) := hD
  refine lv_aload_n hx hb d_X4_init_37 rfl (lv_at hl 0 rfl) ?_
  refine va_new (ci := 2) (fs := [.null, .null, .null, .null, .null, .null, .null, .null, .null, .null, .null, .int 0, .int 0, .int 0, .int 0]) (C := RX2) (T := TX2) (N := 15) hx hb hts uw2 tyX2 tyX2_ok hown (hts _ kw_121) (hts _ kw_122) (hts _ kw_22) hK hP hD hS hA rfl (fun j hj => by rcases (show j = 0 ∨ j = 1 ∨ j = 2 ∨ j = 3 ∨ j = 4 ∨ j = 5 ∨ j = 6 ∨ j = 7 ∨ j = 8 ∨ j = 9 ∨ j = 10 ∨ j = 11 ∨ j = 12 ∨ j = 13 ∨ j = 14 by omega) with rfl | rfl | rfl | rfl | rfl | rfl | rfl | rfl | rfl | rfl | rfl | rfl | rfl | rfl | rfl <;> rfl) (Nat.le_of_ble_eq_true rfl) (Nat.le_of_ble_eq_true rfl) d_X4_init_38 (fun q7 H hP hD hS => ?_)
  refine W.widen (k := 69) (n := 1566) (Nat.le_of_ble_eq_true rfl) (Nat.le_of_ble_eq_true rfl) ?_
  have hP : va_P D vwCl ([(h0, .inr (4, [.ref q1, .ref q3, .ref q5, .null]))] ++ coreW q1 r2 cI2 ++ histW q3 ha4 hq4 hr4 hS4 cI2 ++ scriptW q5 sa6 sb6 sr6 sC6 cI2 ++ [(q7, .inr (2, [.null, .null, .null, .null, .null, .null, .null, .null, .null, .null, .null, .int 0, .int 0, .int 0, .int 0]))]) H := hP
  have hD : va_D A ([(h0, .inr (4, [.ref q1, .ref q3, .ref q5, .null]))] ++ coreW q1 r2 cI2 ++ histW q3 ha4 hq4 hr4 hS4 cI2 ++ scriptW q5 sa6 sb6 sr6 sC6 cI2 ++ [(q7, .inr (2, [.null, .null, .null, .null, .null, .null, .null, .null, .null, .null, .null, .int 0, .int 0, .int 0, .int 0]))]) := hD
  refine lv_dup hx hb d_X4_init_41 rfl ?_
  refine lv_aload_n hx hb d_X4_init_42 rfl (lv_at hl 0 rfl) ?_
  refine va_get (ci := 4) (v := .ref q1) (C := RX4) (T := TX4) (N := 4) hx hb hts uw4 hown hK hP 0 rfl rfl 0 (by decide) (hts _ kw_178) (fun _ h9 => h9) rfl d_X4_init_43 ?_
  have hP : va_P D vwCl (([(h0, .inr (4, [.ref q1, .ref q3, .ref q5, .null]))] ++ coreW q1 r2 cI2 ++ histW q3 ha4 hq4 hr4 hS4 cI2 ++ scriptW q5 sa6 sb6 sr6 sC6 cI2) ++ [(q7, .inr (2, [.null, .null, .null, .null, .null, .null, .null, .null, .null, .null, .null, .int 0, .int 0, .int 0, .int 0]))]) H := hP
  have hD : va_D A (([(h0, .inr (4, [.ref q1, .ref q3, .ref q5, .null]))] ++ coreW q1 r2 cI2 ++ histW q3 ha4 hq4 hr4 hS4 cI2 ++ scriptW q5 sa6 sb6 sr6 sC6 cI2) ++ [(q7, .inr (2, [.null, .null, .null, .null, .null, .null, .null, .null, .null, .null, .null, .int 0, .int 0, .int 0, .int 0]))]) := hD
  have hPc := va_PR hP
  have hDc := va_DR hD
  have hKc := hK.sub (tys' := []) [] rfl
  have hFc := va_freeA hD hS hA
  refine va_callv (va_runI (As := [.ref q1]) (rest := [.ref q7, .ref h0]) ⟨hx, hb, hml, hown, hts⟩ (k_X2_init hG l D q7 H.size q1) (cwI 1 hts (bg_sub (fun w hw => by rcases List.mem_cons.mp hw with rfl | hw; exact kw_c2; exact hw)) rfl rfl rfl (hts _ kw_22) (hts _ kw_123) (hts _ kw_124) rfl (by decide +kernel) ⟨(Nat.le_of_ble_eq_true rfl), (Nat.le_of_ble_eq_true rfl)⟩) ⟨fun a U g mk q => ⟨q.1, ⟨q.2.1.1, q.2.1.2.1, va_K.moved (u := U) (U := U.calling g mk a) (Vm.Alike.refl U.vm) q.2.1.2.2.1, q.2.1.2.2.2⟩, va_AOA.moved (u := U) (U := U.calling g mk a) (Vm.Alike.refl U.vm) q.2.2⟩, fun U hU hW => ⟨rfl, ⟨by rw [hU], by rw [hU]; exact hPc, va_K.moved hW.alike hKc, hDc.weaken (fun _ _ _ _ => trivial)⟩, va_AOA.moved hW.alike hE.2⟩⟩ rfl rfl hl.1 rfl (lv_room (Nat.le_of_ble_eq_true rfl)) d_X4_init_46 ⟨(Nat.le_of_ble_eq_true rfl), (Nat.le_of_ble_eq_true rfl)⟩) hS (fun q _ h => hFc q h) hFc (fun u t H1 locs ht hvm hw hB hz1 hk1 hS => ?_)
  obtain ⟨ka8, kf8, ky8⟩ := u
  obtain ⟨hP1, hK1, hD1⟩ := hB
  rw [ht] at hP1
  have hK1 := va_K.moved hvm.symm hK1
  have hP1 : va_P D vwCl (reckW q7 q1 (ka8 0) (ka8 1) (kf8 0) (kf8 1) (kf8 2) (ky8 0) (ky8 1)) H1 := hP1
  have hD1 : va_D _ (reckW q7 q1 (ka8 0) (ka8 1) (kf8 0) (kf8 1) (kf8 2) (ky8 0) (ky8 1)) := hD1
  have hK1 : va_K D vwCl [(ky8 0, .array .int), (ky8 1, .int)] s := hK1
  generalize ky8 0 = kG8 at hP1 hD1 hK1
  generalize ky8 1 = kI8 at hP1 hD1 hK1
  obtain ⟨hP, hD⟩ := va_joinA hP hD hk1 hFc hP1 hD1
  generalize H1 = H at hP hS ⊢
  refine W.widen (k := 181) (n := 66126) (Nat.le_of_ble_eq_true rfl) (Nat.le_of_ble_eq_true rfl) ?_
  have hK := hK.app hK1
  have hK : va_K D vwCl [(cI2, .int), (hS4, .object RX0), (sC6, .char), (kG8, .array .int), (kI8, .int)] s := hK
  have ey : cI2 = kI8 := tyU hK (t := .int) (by simp) (by simp)
  subst ey
  have hK := hK.sub (tys' := [(cI2, .int), (hS4, .object RX0), (sC6, .char), (kG8, .array .int)]) [0, 1, 2, 3] rfl
  have hP : va_P D vwCl ([(h0, .inr (4, [.ref q1, .ref q3, .ref q5, .null]))] ++ coreW q1 r2 cI2 ++ histW q3 ha4 hq4 hr4 hS4 cI2 ++ scriptW q5 sa6 sb6 sr6 sC6 cI2 ++ reckW q7 q1 (ka8 0) (ka8 1) (kf8 0) (kf8 1) (kf8 2) kG8 cI2) H := hP
  have hD : va_D A ([(h0, .inr (4, [.ref q1, .ref q3, .ref q5, .null]))] ++ coreW q1 r2 cI2 ++ histW q3 ha4 hq4 hr4 hS4 cI2 ++ scriptW q5 sa6 sb6 sr6 sC6 cI2 ++ reckW q7 q1 (ka8 0) (ka8 1) (kf8 0) (kf8 1) (kf8 2) kG8 cI2) := hD
  refine va_putF (D := D) (ci := 4) (v := .ref q7) (ty := .object "VarveClock$Reckoning") (C := RX4) (T := TX4) (N := 4) hx hb hts uw4 tyX4 tyX4_ok nmX4 hown hK hP hD hS 0 rfl rfl 3 (by decide) (hts _ kw_181) (fun _ h9 => h9) rfl hin rfl (by decide +kernel) rfl rfl (Nat.le_of_ble_eq_true rfl) d_X4_init_49 (fun H locs hP hD hS => ?_)
  have hP : va_P D vwCl ([(h0, .inr (4, [.ref q1, .ref q3, .ref q5, .ref q7]))] ++ coreW q1 r2 cI2 ++ histW q3 ha4 hq4 hr4 hS4 cI2 ++ scriptW q5 sa6 sb6 sr6 sC6 cI2 ++ reckW q7 q1 (ka8 0) (ka8 1) (kf8 0) (kf8 1) (kf8 2) kG8 cI2) H := hP
  have hD : va_D A ([(h0, .inr (4, [.ref q1, .ref q3, .ref q5, .ref q7]))] ++ coreW q1 r2 cI2 ++ histW q3 ha4 hq4 hr4 hS4 cI2 ++ scriptW q5 sa6 sb6 sr6 sC6 cI2 ++ reckW q7 q1 (ka8 0) (ka8 1) (kf8 0) (kf8 1) (kf8 2) kG8 cI2) := hD
  obtain ⟨u9, eu9⟩ : ∃ u : (Nat → Nat) × (Nat → Nat → Nat) × (Nat → ClassId), u = ((fun i : Nat => [q1, q3, q5, q7, ha4, sa6, sb6, (ka8 0), (ka8 1)].getD i 0), (fun i : Nat => [r2, hq4, (hr4 0), (hr4 1), (hr4 2), (hr4 3), (hr4 4), (hr4 5), sr6, (kf8 0), (kf8 1), (kf8 2)].getD i r2), (fun i : Nat => [cI2, sC6, hS4, kG8].getD i cI2)) := ⟨_, rfl⟩
  have hP9 : va_P D vwCl (clockW h0 u9.1 u9.2.1 u9.2.2) H := by rw [eu9]; exact hP
  have hD9 : va_D A (clockW h0 u9.1 u9.2.1 u9.2.2) := by rw [eu9]; exact hD
  have hK9 : va_K D vwCl ([(u9.2.2 0, .int), (u9.2.2 2, .object RX0), (u9.2.2 1, .char), (u9.2.2 3, .array .int)]) s := by rw [eu9]; exact hK
  exact W.vret hx hb hr (fun t ht hW => ⟨⟨u9, rfl, trivial, by rw [ht]; exact hP9, va_K.moved hW.alike hK9, hD9⟩, hS.F ht⟩) hS.2.2 d_X4_init_52
end
section
/-! THE CLAIM OUT OF ONE WALK OF THE LAW'S BODY. Your part is whole_start (and what it stands on); all else here is the same for every law, but numbers. -/
def R_law : String := "VarveClockLaw"
def lw_P (b : Addr) (xs : List Int32) (args : Array Value) (s : State) : Prop := args = #[.ref b] ∧ s.IntsAt b xs ∧ xs.length ≤ 260 ∧ (Jvm.Cond.and given_1 narrow_1).before args s = true
def lw_Q (_ : Array Value) (s : State) (o : Outcome) (t : State) : Prop := o = .returned (some (.int 1)) ∧ Framed s o t [] 600000 7302250
def lw_Z (below : List Frame) (a : Array Value) (s : State) : State → Prop := fun t => ∃ o, t.status = .running ∧ Ended t below o ∧ lw_Q a s o t
/-- the law's own end, with 1 on the stack, nothing written that was there before, its room as the claim has it -/
theorem lw_ret {p : Program} {l : Launch} {e : Env} {s : State} {m : MethodId} {below : List Frame} {meth : Method} {c : Code} {b : Nat} (hx : p.tables.exec = Jvm.exec) (hb : c.code = code) (hr : meth.sig.returnType = ret) (hlocks : meth.locks = false) {pc : Nat} {H : Heap} {ls : Array Slot} (hdg : decode code pc = .ok (.ireturn, 1)) : W p l e room_1 s m #[Value.ref b] below meth c H [] 600000 7302250 (lw_Z below #[Value.ref b] s) (F0 m pc ls [.int 1]) := by
  intro T hT X
  obtain ⟨fs, hret, hrun, hended, hW, hframe⟩ := X.leave (v := some (.int 1)) (hlocks := hlocks) (fun h => by rw [hr] at h; cases h)
  have hmeth' : T.vm.method? m = some meth := X.method'
  refine ⟨T.setFrames fs, ?_, .returned (some (.int 1)), hrun, hended, rfl, ⟨_, rfl⟩, hW, hframe⟩
  jvm_step X.here [X.here.top, hx, hb, hdg, hmeth', hr, ret, narrow_b1]
  (try refine ⟨rfl, ?_⟩); (try refine ⟨rfl, ?_⟩)
  first | (intro acts; rw [hret _ acts rfl rfl rfl]) | rw [hret _ _ rfl rfl rfl]
  exact Steps.refl _
/-- what holds at the law's entry: the machine, the code, the tables' words (any of lw_tbl by 'hts w (by decide +kernel)'), the script of L ints xs at the cell b, what the Statement gives of the start (any of its parts by flat_of_before) -/
def lw_At (p : Program) (s : State) (m : MethodId) (meth : Method) (c : Code) (b L : Nat) (xs : Nat → Int32) : Prop :=
  p.tables.exec = Jvm.exec ∧ c.code = code ∧ meth.sig.returnType = ret ∧ c.maxLocals = 13 ∧ s.vm.findClass R_law = some m.cls ∧ (∀ w ∈ lw_tbl, w.before #[Value.ref b] s = true) ∧ va_X b L xs s s.heap ∧ b < s.heap.size ∧ meth.locks = false ∧ (Jvm.Cond.and given_1 narrow_1).before #[Value.ref b] s = true
end
section
/-! THE LAW: its code beside the twin -/
def okL (q : Nat × AMI) : Bool := Nat.beq q.2.1 99 || chkI code 6 13 (some .int) q.1 q.2
set_option maxRecDepth 100000 in
theorem tb_okL : (tb_law.all fun c => c.2.all okL) = true := by decide +kernel
section LAWS
variable {p : Program} {l : Launch} {e : Env} {s : State} {m : MethodId} {below : List Frame} {meth : Method} {c : Code} {ad : Nat → Int → Nat} {cy : Nat → ClassId} {D : va_G} {b L : Nat} {xs : Nat → Int32} {σz : Sto}
abbrev AL (s : State) : Nat → Prop := fun q => s.heap.size ≤ q
abbrev PL (p : Program) (l : Launch) (e : Env) (s : State) (m : MethodId) (below : List Frame) (meth : Method) (c : Code) (ad : Nat → Int → Nat) (cy : Nat → ClassId) (D : va_G) (b : Nat) (σz : Sto) : Ctx := AMW p l e room_1 s m #[Value.ref b] below meth c 182 66130 (lw_Z below #[Value.ref b] s) ad cy D (AL s) s.heap 13 σz
theorem law_step (hx : p.tables.exec = Jvm.exec) (hb : c.code = code) (hr : meth.sig.returnType = ret) (hml : c.maxLocals = 13) (hown : s.vm.findClass RL = some m.cls) (hts : ∀ w ∈ BG, w.before #[Value.ref b] s = true) (hlocks : meth.locks = false) (hSW : SWd ad L xs cy D (AL s) s) (hD : ∀ σ, va_D (AL s) (cellsW ad cy σ)) (hL : L ≤ 260) (z1 : σz 41 0 (-1) = L) (z2 : ∀ j : Nat, j < L → Int32.ofInt (σz 41 0 j) = xs j) {pc : Nat} {ls st : List AV} {σ : Sto} (hs : stp (WPd 8) LQ (PL p l e s m below meth c ad cy D b σz) ls st σ (lk2 tb_law pc)) : PL p l e s m below meth c ad cy D b σz pc ls st σ := by
  rcases lk2_mem tb_law pc with q | ⟨c2, hc2, q⟩
  · rw [q] at hs
    exact hs.elim
  · have hc := List.all_eq_true.mp (List.all_eq_true.mp tb_okL c2 hc2) _ q
    unfold okL at hc
    rcases Bool.or_eq_true_iff.mp hc with h99 | hc
    · generalize lk2 tb_law pc = ins at hs h99
      obtain ⟨op, a, i1, i2, i3, nx⟩ := ins
      have e := Nat.eq_of_beq_eq_true h99
      dsimp only at e
      subst e
      exact hs.elim
    · dsimp only at hc
      refine w_step (Γ := WPd 8) (Q := LQ) (rm := rmD 8) (oc := 6) (rk := some .int) (SW := SWd ad L xs cy D (AL s)) hx hb hml hts hown hSW.1 hD ⟨by decide, by decide⟩ ⟨by decide, by decide⟩ SWd_b (fun H locs U h1 h2 h3 => SWd_H hSW h1 h2 h3) hSW.2.1 (fun y as σ Q g1 g2 g3 g4 g5 => sound l hD hL z1 z2 8 y as σ Q g1 g2 g3 g4 g5) ⟨rfl, rfl, by decide, by decide⟩ hc (fun hsp => ?_) hs
      generalize lk2 tb_law pc = ins at hs hc hsp
      obtain ⟨op, a, i1, i3, i4, nx⟩ := ins
      rcases isSp_of hsp with e | e | e | e | e | e <;> (dsimp only at e; subst e; simp only [chkI] at hc; have hc := of_decide_eq_true hc; simp only [stp] at hs)
      · unfold s_ret at hs
        split at hs
        · rename_i v
          have ev : v = 1 := by
            have hs : (some (Sum.inl v) : Option AV) = some (Sum.inl 1) := hs
            exact Sum.inl.inj (Option.some.inj hs)
          subst ev
          intro H locs lsl2 hP2 hS2 hl3 hls hst hσ2
          refine va_forget (fun q hq => hS2.2.2 q hq) ?_
          refine W.widen (k := 600000) (n := 7302250) (Nat.le_of_ble_eq_true rfl) (Nat.le_of_ble_eq_true rfl) ?_
          exact lw_ret hx hb hr hlocks hc.1
        · exact hs.elim
      · exact absurd hc.2 (by decide)
      · exact absurd hc.2 (by decide)
      · exact absurd hc.2 (by decide)
      · exact w_scrLen hx hb hSW hc.2 rfl z1 hs
      · exact w_scr hx hb hSW hL hc.2 rfl z1 z2 hs
end LAWS
end
section
/-! THE START: the world that the constructors leave, as the twin's store -/
def idsC (i : Int) : List (Nat × Int) := [(16, i), (17, i), (18, i), (19, i), (20, i), (21, i), (22, i), (23, i)]
def idsR (k : Nat) : List (Nat × Int) := (List.range 51).map fun (i : Nat) => (k, (i : Int))
def idsL : List (Nat × Int) := [(0, 0)] ++ idsC 0 ++ ([(1, 0), (4, 0)] ++ idsC 2 ++ idsC 3 ++ idsC 4 ++ idsC 5 ++ idsC 6 ++ idsC 7) ++ ([(2, 0), (5, 0)] ++ idsC 1) ++ ([(3, 0), (6, 0)] ++ idsR 24 ++ [(7, 0)] ++ idsR 25 ++ [(8, 0), (9, 0), (10, 0), (11, 0), (12, 0), (13, 0), (14, 0), (15, 0)])
theorem ids_sub : ∀ q ∈ idsK, q ∈ idsL := by decide +kernel
/-- the addresses -/
def adW (v0 : Nat) (a : Nat → Nat) (f : Nat → Nat → Nat) (b : Nat) : Nat → Int → Nat := fun k i => match k with
  | 0 => v0
  | 1 => a 1
  | 2 => a 2
  | 3 => a 3
  | 4 => a 4
  | 5 => a 5
  | 6 => a 7
  | 7 => a 8
  | 8 => f 11 0
  | 9 => f 11 1
  | 10 => f 11 2
  | 11 => f 11 3
  | 12 => f 11 4
  | 13 => f 11 5
  | 14 => f 11 6
  | 15 => f 11 7
  | 16 => (match i.toNat with
    | 0 => a 0
    | 1 => a 6
    | n + 2 => f 1 n)
  | 24 => f 9 i.toNat
  | 25 => f 10 i.toNat
  | 41 => b
  | k => (match i.toNat with
    | 0 => f 0 (k - 17)
    | 1 => f 8 (k - 17)
    | n + 2 => f (2 + n) (k - 17))
def sto0 (g : Int → Int) : Sto := fun k _ j => match k with
  | 23 => setG j
  | 3 => if j = 14 then -1 else 0
  | 41 => g j
  | _ => 0
abbrev celE (ad : Nat → Int → Nat) (cy : Nat → ClassId) (σ : Sto) (q : Nat × Int) : Nat × va_E := (ad q.1 q.2, cellE ad cy σ q.1 q.2)
section WORLD
variable {v0 : Nat} {a : Nat → Nat} {f : Nat → Nat → Nat} {b : Nat} {y : Nat → ClassId} {g : Int → Int}
theorem ew_core0 : coreW (a 0) (f 0) (y 0) = (idsC 0).map (celE (adW v0 a f b) y (sto0 g)) := rfl
theorem ew_core1 : coreW (a 6) (f 8) (y 0) = (idsC 1).map (celE (adW v0 a f b) y (sto0 g)) := rfl
theorem ew_core2 (n : Nat) : coreW (f 1 n) (f (2 + n)) (y 0) = (idsC ((n + 2 : Nat) : Int)).map (celE (adW v0 a f b) y (sto0 g)) := rfl
theorem ew_rows9 : rowsW (f 9) (y 0) = (idsR 24).map (celE (adW v0 a f b) y (sto0 g)) := by
  unfold rowsW idsR
  rw [List.map_map]
  rfl
theorem ew_rows10 : rowsW (f 10) (y 0) = (idsR 25).map (celE (adW v0 a f b) y (sto0 g)) := by
  unfold rowsW idsR
  rw [List.map_map]
  rfl
theorem ew_p1 : ([(v0, .inr (4, [.ref (a 0), .ref (a 1), .ref (a 2), .ref (a 3)]))] : va_W) = [(0, 0)].map (celE (adW v0 a f b) y (sto0 g)) := rfl
theorem ew_p2a : ([(a 1, .inr (1, [.ref (a 4), .int 0, .int 0]))] : va_W) = [(1, 0)].map (celE (adW v0 a f b) y (sto0 g)) := rfl
theorem ew_p2b : ([(a 1, .inr (1, [.ref (a 4), .int 0, .int 0])), (a 4, .inl (y 2, 6, .inr (.inr (.inr (.inr (fun j => some (f 1 j)))))))] : va_W) = [(1, 0), (4, 0)].map (celE (adW v0 a f b) y (sto0 g)) := by
  have e : (fun j : Nat => some (f 1 j)) = fun j : Nat => some (adW v0 a f b (refA 4 (j : Int)).1 (refA 4 (j : Int)).2) := by
    funext j
    have t : (2 + (j : Int)).toNat = j + 2 := by omega
    show some (f 1 j) = some (match (2 + (j : Int)).toNat with
      | 0 => a 0
      | 1 => a 6
      | n + 2 => f 1 n)
    rw [t]
  rw [e]
  rfl
theorem ew_p3 : ([(a 2, .inr (3, [.ref (a 5), .ref (a 6), .int 0, .int 0])), (a 5, .inl (y 1, 90, .inl (fun _ => 0)))] : va_W) = [(2, 0), (5, 0)].map (celE (adW v0 a f b) y (sto0 g)) := rfl
theorem ew_p4a : ([(a 3, .inr (2, [.ref (a 0), .ref (a 7), .ref (a 8), .ref (f 11 0), .ref (f 11 1), .ref (f 11 2), .ref (f 11 3), .ref (f 11 4), .ref (f 11 5), .ref (f 11 6), .ref (f 11 7), .int 0, .int 0, .int 0, .int (-1)]))] : va_W) = [(3, 0)].map (celE (adW v0 a f b) y (sto0 g)) := rfl
theorem ew_p4b : ([(a 7, .inl (y 3, 51, .inr (.inr (.inr (.inr (fun i => some (f 9 i)))))))] : va_W) = [(6, 0)].map (celE (adW v0 a f b) y (sto0 g)) := rfl
theorem ew_p4c : ([(a 8, .inl (y 3, 51, .inr (.inr (.inr (.inr (fun i => some (f 10 i)))))))] : va_W) = [(7, 0)].map (celE (adW v0 a f b) y (sto0 g)) := rfl
theorem ew_all : clockW v0 a f y = idsL.map (celE (adW v0 a f b) y (sto0 g)) := by
  have c2 : coreW (f 1 0) (f (2 + 0)) (y 0) = (idsC 2).map (celE (adW v0 a f b) y (sto0 g)) := ew_core2 0
  have c3 : coreW (f 1 1) (f (2 + 1)) (y 0) = (idsC 3).map (celE (adW v0 a f b) y (sto0 g)) := ew_core2 1
  have c4 : coreW (f 1 2) (f (2 + 2)) (y 0) = (idsC 4).map (celE (adW v0 a f b) y (sto0 g)) := ew_core2 2
  have c5 : coreW (f 1 3) (f (2 + 3)) (y 0) = (idsC 5).map (celE (adW v0 a f b) y (sto0 g)) := ew_core2 3
  have c6 : coreW (f 1 4) (f (2 + 4)) (y 0) = (idsC 6).map (celE (adW v0 a f b) y (sto0 g)) := ew_core2 4
  have c7 : coreW (f 1 5) (f (2 + 5)) (y 0) = (idsC 7).map (celE (adW v0 a f b) y (sto0 g)) := ew_core2 5
  unfold idsL
  rw [List.map_append, List.map_append, List.map_append, List.map_append, List.map_append, List.map_append, List.map_append, List.map_append, List.map_append, List.map_append, List.map_append, List.map_append, List.map_append, List.map_append, List.map_append]
  rw [← c2, ← c3, ← c4, ← c5, ← c6, ← c7, ← ew_core0, ← ew_core1, ← ew_rows9, ← ew_rows10, ← ew_p2b]
  rfl
end WORLD
theorem world_D {A : Nat → Prop} {ad : Nat → Int → Nat} {E : Nat × Int → va_E} (h : va_D A (idsL.map fun q => (ad q.1 q.2, E q))) (cy : Nat → ClassId) (σ : Sto) : va_D A (cellsW ad cy σ) := by
  have at1 : ∀ q ∈ idsL, ∃ i : Nat, idsL[i]? = some q ∧ (idsL.map fun q => (ad q.1 q.2, E q))[i]? = some (ad q.1 q.2, E q) := fun q hq => by
    obtain ⟨i, hi⟩ := List.getElem?_of_mem hq
    exact ⟨i, hi, by rw [List.getElem?_map, hi]; rfl⟩
  have of1 : ∀ (k : Nat) (x : Nat × va_E), (cellsW ad cy σ)[k]? = some x → ∃ q, idsK[k]? = some q ∧ q ∈ idsL ∧ x.1 = ad q.1 q.2 := fun k x hk => by
    unfold cellsW at hk
    rw [List.getElem?_map] at hk
    cases hq : idsK[k]? with
    | none => rw [hq] at hk; cases hk
    | some q =>
      rw [hq] at hk
      cases hk
      exact ⟨q, rfl, ids_sub q (List.mem_of_getElem? hq), rfl⟩
  refine ⟨fun i j x z hi hj e => ?_, fun k x hk => ?_⟩
  · obtain ⟨q1, a1, a2, a3⟩ := of1 i x hi
    obtain ⟨q2, b1, b2, b3⟩ := of1 j z hj
    obtain ⟨i1, c1, c2⟩ := at1 q1 a2
    obtain ⟨j1, d1, d2⟩ := at1 q2 b2
    have ij := h.1 i1 j1 _ _ c2 d2 (by rw [← a3, ← b3]; exact e)
    subst ij
    rw [c1] at d1
    cases d1
    exact (List.getElem?_inj (List.getElem?_eq_some_iff.mp a1).1 ids_nodup).mp (by rw [a1, b1])
  · obtain ⟨q1, a1, a2, a3⟩ := of1 k x hk
    obtain ⟨i1, c1, c2⟩ := at1 q1 a2
    have := h.2 i1 _ c2
    rw [a3]
    exact this
theorem world_P {D : va_G} {cl : List vw_C} {H : Heap} {ad : Nat → Int → Nat} {cy : Nat → ClassId} {σ : Sto} (h : va_P D cl (idsL.map (celE ad cy σ)) H) : va_P D cl (cellsW ad cy σ) H := by
  intro k x hk
  unfold cellsW at hk
  rw [List.getElem?_map] at hk
  cases hq : idsK[k]? with
  | none => rw [hq] at hk; cases hk
  | some q =>
    rw [hq] at hk
    cases hk
    obtain ⟨i, hi⟩ := List.getElem?_of_mem (ids_sub q (List.mem_of_getElem? hq))
    exact h i _ (by rw [List.getElem?_map, hi]; rfl)
theorem sto0_in {g : Int → Int} (hg : ∀ j, inR (g j)) : ∀ k i j, inR (sto0 g k i j) := by
  intro k i j
  unfold sto0
  split
  · show inR (setG j)
    unfold setG
    (repeat' split) <;> omega
  · split <;> omega
  · exact hg j
  · omega
theorem sto0_rel (g : Int → Int) : ∃ K : KV, ClassR (sto0 g) K 0 (fun _ => K) 0 (fun _ => 0) ∧ K 7 0 = 0 ∧ K 7 1 = 0 := by
  have w : WFK (vwC (sto0 g) 0) := by
    have e7 : vwC (sto0 g) 0 7 0 = 0 := rfl
    have e71 : vwC (sto0 g) 0 7 1 = 0 := rfl
    refine ⟨by omega, by omega, fun j h0 h1 => by omega, fun j h0 h1 => by omega, fun i j h0 h1 h2 => by omega, fun j h0 h1 => ?_⟩
    rw [(vw_in (σ := sto0 g) (c := 0)).2.2 h0 h1]
    show 0 ≤ setG j ∧ setG j ≤ 50
    unfold setG
    (repeat' split) <;> omega
  exact ⟨vwC (sto0 g) 0, ⟨rfl, w, ⟨rfl, by decide, (by have e : sto0 g 1 0 1 = 0 := rfl; omega), fun s h0 h1 => by omega⟩, ⟨rfl, by decide, fun j h0 h1 => by omega⟩, RecOk_0 rfl rfl rfl⟩, rfl, rfl⟩
end
section
/-! THE LAW from its entry -/
set_option maxRecDepth 100000 in
theorem d_law_0 : decode code 0 = .ok (.new 16, 3) := by decide +kernel
set_option maxRecDepth 100000 in
theorem d_law_3 : decode code 3 = .ok (.dup, 1) := by decide +kernel
set_option maxRecDepth 100000 in
theorem d_law_4 : decode code 4 = .ok (.invokespecial 67, 3) := by decide +kernel
set_option maxRecDepth 100000 in
theorem d_law_7 : decode code 7 = .ok (.astore_n 1, 1) := by decide +kernel
set_option maxRecDepth 100000 in
theorem kw_18 : Jvm.Cond.initialized RX4 ∈ BG := bg_of 18 rfl rfl
set_option maxRecDepth 100000 in
theorem kw_25 : Jvm.Cond.classLink RL 16 RX4 ∈ BG := bg_of 25 rfl rfl
set_option maxRecDepth 100000 in
theorem kw_26 : Jvm.Cond.instantiable RX4 4 ∈ BG := bg_of 26 rfl rfl
set_option maxRecDepth 100000 in
theorem kw_27 : Jvm.Cond.methodLink RL 67 yX4_init ∈ BG := bg_of 27 rfl rfl
set_option maxRecDepth 100000 in
theorem kw_28 : Jvm.Cond.instanceMethod yX4_init ∈ BG := bg_of 28 rfl rfl
set_option maxRecDepth 100000 in
theorem kw_c4 : Jvm.Cond.code yX4_init cX4_init 1 none ∈ BG := bg_of 29 rfl rfl
set_option maxHeartbeats 16000000 in
set_option maxRecDepth 100000 in
/-- the walk up to the twin -/
theorem whole_start_of (hG : Mna) {p : Program} {e : Env} {s : State} {m : MethodId} {below : List Frame} {meth : Method} {c : Code} (l : Launch) (hflags : l.flags = flags0) {b L : Nat} {xs : Nat → Int32} (hL : L ≤ 260) (C0 : lw_At p s m meth c b L xs) : W p l e room_1 s m #[Value.ref b] below meth c s.heap [] 0 0 (lw_Z below #[Value.ref b] s) (entryFrame m ([Value.ref b] : List Value).toArray 13) := by
  obtain ⟨hx, hb, hr, hml, hown0, hts0, hX, hbl, hlocks, hgv⟩ := id C0
  have hown : s.vm.findClass RL = some m.cls := hown0
  have hts : ∀ w ∈ BG, w.before #[Value.ref b] s = true := fun w hw => hts0 w (bg_in hw)
  obtain ⟨A, eA⟩ : ∃ A, AL s = A := ⟨_, rfl⟩
  have hA : ∀ q : Nat, s.heap.size ≤ q → A q := fun q h => by rw [← eA]; exact h
  obtain ⟨c0, i0, k0⟩ := u_known (C := RX0) (T := TX0) (N := 9) (n := 9) hts uw0 (hts _ kw_34)
  obtain ⟨c1, i1, k1⟩ := u_known (C := RX1) (T := TX1) (N := 3) (n := 3) hts uw1 (hts _ kw_80)
  obtain ⟨c2, i2, k2⟩ := u_known (C := RX2) (T := TX2) (N := 15) (n := 15) hts uw2 (hts _ kw_122)
  obtain ⟨c3, i3, k3⟩ := u_known (C := RX3) (T := TX3) (N := 4) (n := 4) hts uw3 (hts _ kw_100)
  obtain ⟨c4, i4, k4⟩ := u_known (C := RX4) (T := TX4) (N := 4) (n := 4) hts uw4 (hts _ kw_26)
  obtain ⟨dC, dI, hKc0⟩ : ∃ (dC : Nat → ClassId) (dI : Nat → Nat → Nat), ∀ (k : Nat) (q : vw_C), vwCl[k]? = some q → u_Kn s q.1 q.2.1 q.2.2 (dC k) (dI k) := by
    refine ⟨fun k => [c0, c1, c2, c3, c4].getD k c0, fun k => [i0, i1, i2, i3, i4].getD k i0, ?_⟩
    intro k q hq
    match k, hq with
    | 0, hq => cases hq; exact k0
    | 1, hq => cases hq; exact k1
    | 2, hq => cases hq; exact k2
    | 3, hq => cases hq; exact k3
    | 4, hq => cases hq; exact k4
    | k + 5, hq => simp [vwCl] at hq
  obtain ⟨D, eD⟩ : ∃ D : va_G, D = (dC, dI) := ⟨_, rfl⟩
  have hKc1 : ∀ (k : Nat) (q : vw_C), vwCl[k]? = some q → u_Kn s q.1 q.2.1 q.2.2 (D.1 k) (D.2 k) := by rw [eD]; exact hKc0
  have hEO : va_AO RX0 s := va_AO.of (hts0 _ (List.mem_of_getElem? (i := 86) rfl))
  have hEA : va_AOA .int s := (hts0 _ (List.mem_of_getElem? (i := 128) rfl) : (Cond.arrayOver (.array .int)).before #[Value.ref b] s = true)
  have hn1 : va_Nw (.methodLinkNest RX2 173 yX4_isWithin RX4) s := va_Nw.of rfl (hts0 _ (List.mem_of_getElem? (i := 377) rfl))
  have hS : va_S A s.heap s.heap [] := va_S.rf
  have hK : va_K D vwCl [] s := ⟨hKc1, fun k q h => by simp at h⟩
  have hP : va_P D vwCl [] s.heap := fun k q h => by simp at h
  have hD : va_D A [] := ⟨fun i j p q h => by simp at h, fun k q h => by simp at h⟩
  have hl := lv_entry ([.ref b]) (n := 13) (Nat.le_of_ble_eq_true rfl)
  rw [lg_entry_eq]
  generalize (lg_sl ([.ref b]) ++ List.replicate (13 - (lg_sl ([.ref b])).length) Slot.unset).toArray = ls at hl ⊢
  have hl : lv_has ls 13 [(0, .ref b)] := hl
  refine va_new (ci := 4) (fs := [.null, .null, .null, .null]) (C := RX4) (T := TX4) (N := 4) hx hb hts uw4 tyX4 tyX4_ok hown (hts _ kw_25) (hts _ kw_26) (hts _ kw_18) hK hP hD hS hA rfl (fun j hj => by rcases (show j = 0 ∨ j = 1 ∨ j = 2 ∨ j = 3 by omega) with rfl | rfl | rfl | rfl <;> rfl) (Nat.le_of_ble_eq_true rfl) (Nat.le_of_ble_eq_true rfl) d_law_0 (fun q1 H hP hD hS => ?_)
  refine W.widen (k := 1) (n := 4) (Nat.le_of_ble_eq_true rfl) (Nat.le_of_ble_eq_true rfl) ?_
  have hP : va_P D vwCl ([(q1, .inr (4, [.null, .null, .null, .null]))]) H := hP
  have hD : va_D A ([(q1, .inr (4, [.null, .null, .null, .null]))]) := hD
  refine lv_dup hx hb d_law_3 rfl ?_
  have hP : va_P D vwCl (([]) ++ [(q1, .inr (4, [.null, .null, .null, .null]))]) H := hP
  have hD : va_D A (([]) ++ [(q1, .inr (4, [.null, .null, .null, .null]))]) := hD
  have hPc := va_PR hP
  have hDc := va_DR hD
  have hKc := hK.sub (tys' := []) [] rfl
  have hFc := va_freeA hD hS hA
  refine va_callv (va_runI (As := []) (rest := [.ref q1]) ⟨hx, hb, hml, hown, hts⟩ (k_X4_init hG l D q1 H.size) (cwI 0 hts (bg_sub (fun w hw => by rcases List.mem_cons.mp hw with rfl | hw; exact kw_c4; exact hw)) rfl rfl rfl (hts _ kw_18) (hts _ kw_27) (hts _ kw_28) rfl (by decide +kernel) ⟨(Nat.le_of_ble_eq_true rfl), (Nat.le_of_ble_eq_true rfl)⟩) ⟨fun a U g mk q => ⟨q.1, ⟨q.2.1.1, q.2.1.2.1, va_K.moved (u := U) (U := U.calling g mk a) (Vm.Alike.refl U.vm) q.2.1.2.2.1, q.2.1.2.2.2⟩, E4.moved (u := U) (U := U.calling g mk a) (Vm.Alike.refl U.vm) q.2.2⟩, fun U hU hW => ⟨rfl, ⟨by rw [hU], by rw [hU]; exact hPc, va_K.moved hW.alike hKc, hDc.weaken (fun _ _ _ _ => trivial)⟩, E4.moved hW.alike ⟨hEO, hEA⟩⟩⟩ rfl rfl hl.1 rfl (lv_room (Nat.le_of_ble_eq_true rfl)) d_law_4 ⟨(Nat.le_of_ble_eq_true rfl), (Nat.le_of_ble_eq_true rfl)⟩) hS (fun q _ h => hFc q h) hFc (fun u t H1 locs ht hvm hw hB hz1 hk1 hS => ?_)
  obtain ⟨va, vf, vy⟩ := u
  obtain ⟨hP1, hK1, hD1⟩ := hB
  rw [ht] at hP1
  have hK1 := va_K.moved hvm.symm hK1
  obtain ⟨hP, hD⟩ := va_joinA hP hD hk1 hFc hP1 hD1
  generalize H1 = H at hP hS ⊢
  refine W.widen (k := 182) (n := 66130) (Nat.le_of_ble_eq_true rfl) (Nat.le_of_ble_eq_true rfl) ?_
  have hK := hK.app hK1
  have hK : va_K D vwCl [((vy 0), .int), ((vy 2), .object RX0), ((vy 1), .char), ((vy 3), .array .int)] s := hK
  have hK := hK.sub (tys' := [((vy 0), .int), ((vy 2), .object RX0), ((vy 1), .char), ((vy 3), .array .int)]) [0, 1, 2, 3] rfl
  have hP : va_P D vwCl (clockW q1 va vf vy) H := hP
  have hD : va_D A (clockW q1 va vf vy) := hD
  refine lv_astore_n (lv' := [(1, .ref q1), (0, .ref b)]) hx hb d_law_7 rfl hl (by decide) rfl (fun ls hl => ?_)
  have hl9 := lv_sub hl (l' := [(0, .ref b), (1, .ref q1)]) [1, 0] rfl
  subst eA
  obtain ⟨g0, eg0⟩ : ∃ g : Int → Int, ∀ j, g j = if j = -1 then (L : Int) else (xs j.toNat).toInt := ⟨_, fun _ => rfl⟩
  have hg : ∀ j, inR (g0 j) := fun j => by
    rw [eg0]
    split
    · omega
    · have h1 := Int32.toInt_lt (xs j.toNat)
      have h2 := Int32.le_toInt (xs j.toNat)
      omega
  have hP9 : va_P D vwCl (idsL.map (celE (adW q1 va vf b) vy (sto0 g0))) H := by
    rw [← ew_all]
    exact hP
  have hD9 : va_D (AL s) (idsL.map (celE (adW q1 va vf b) vy (sto0 g0))) := by
    rw [← ew_all]
    exact hD
  have hDD : ∀ σ, va_D (AL s) (cellsW (adW q1 va vf b) vy σ) := fun σ => world_D hD9 vy σ
  have hKt : va_K D vwCl (tysW vy) s := by
    have := hK.sub (tys' := tysW vy) [0, 2, 1, 3] rfl
    exact this
  have hSW : SWd (adW q1 va vf b) L xs vy D (AL s) s := ⟨hKt, hn1, hX, hbl, Nat.not_le.mpr hbl⟩
  have z1 : sto0 g0 41 0 (-1) = L := by
    show g0 (-1) = L
    rw [eg0, if_pos rfl]
  have z2 : ∀ j : Nat, j < L → Int32.ofInt (sto0 g0 41 0 j) = xs j := fun j hj => by
    show Int32.ofInt (g0 j) = xs j
    rw [eg0, if_neg (by omega), Int.toNat_natCast]
    exact Int32.ofInt_toInt _
  have closed : ∀ pc ls st σ, stp (WPd 8) LQ (wkP (PL p l e s m below meth c (adW q1 va vf b) vy D b (sto0 g0))) ls st σ (lk2 tb_law pc) → wkP (PL p l e s m below meth c (adW q1 va vf b) vy D b (sto0 g0)) pc ls st σ := fun pc ls st σ h t => law_step hx hb hr hml hown hts hlocks hSW hDD hL z1 z2 (stp_ext (WPd_mono 8) h t)
  obtain ⟨K0, hR, n0, a0⟩ := sto0_rel g0
  have key := law_run (d := 8) (by decide) (P := wkP (PL p l e s m below meth c (adW q1 va vf b) vy D b (sto0 g0))) (fun n pc ls st σ q t => by
    have x := q (ls.drop n ++ t)
    rwa [← List.append_assoc, List.take_append_drop] at x) closed hR (by rw [z1]; omega) n0 a0 []
  exact key H locs ls (world_P hP9) hS hl9 (fun v hv => by
    simp only [List.mem_append, List.mem_cons, List.not_mem_nil, or_false] at hv
    rcases hv with rfl | rfl
    · exact ⟨by decide, by decide⟩
    · exact ⟨by decide, by decide⟩) (fun v hv => by cases hv) ⟨sto0_in hg, fun _ _ _ => rfl⟩
end
section
theorem va_AOA.use {t : FieldType} {A : Array Value} {U : State} (h : va_AOA t U) : (Cond.arrayOver (.array t)).before A U = true := h
/-! ===== BEGIN new T[n][m]: the outer array a place, the inner ones among the pooled ===== -/
/-- f, but v at every address of l -/
def vr_up {α : Type} (f : Nat → α) (l : List Nat) (v : α) : Nat → α := fun a => if a ∈ l then v else f a
theorem vr_up_in {α : Type} {f : Nat → α} {l : List Nat} {v : α} {a : Nat} (h : a ∈ l) : vr_up f l v a = v := if_pos h
theorem vr_up_ne {α : Type} {f : Nat → α} {l : List Nat} {v : α} {a : Nat} (h : a ∉ l) : vr_up f l v a = f a := if_neg h
theorem vr_rows {L l : List Nat} {f : Nat → va_E} {e : va_E} (h : ∀ a, a ∈ l → a ∉ L) : va_pl L f ++ l.map (fun a => (a, e)) = va_pl (L ++ l) (vr_up f l e) := by
  unfold va_pl
  rw [List.map_append]
  congr 1
  · apply List.map_congr_left
    intro a ha
    rw [vr_up_ne (fun q => h a q ha)]
  · apply List.map_congr_left
    intro a ha
    rw [vr_up_in ha]
theorem vr_lay {X rows : va_W} {x : Nat × va_E} {pl : va_W} {D : va_G} {cl : List vw_C} {H : Heap} (hP : va_P D cl (((X ++ pl) ++ [x]) ++ rows) H) : va_P D cl ((X ++ [x]) ++ (pl ++ rows)) H := by
  rw [List.append_assoc (X ++ pl)] at hP
  have h := va_P.swap hP
  rw [← List.append_assoc X] at h
  have h2 := va_P.swap h
  rw [List.append_assoc (X ++ [x])] at h2
  exact h2
theorem vr_layD {X rows : va_W} {x : Nat × va_E} {pl : va_W} {A : Nat → Prop} (hD : va_D A (((X ++ pl) ++ [x]) ++ rows)) : va_D A ((X ++ [x]) ++ (pl ++ rows)) := by
  rw [List.append_assoc (X ++ pl)] at hD
  have h := va_D.swap hD
  rw [← List.append_assoc X] at h
  have h2 := va_D.swap h
  rw [List.append_assoc (X ++ [x])] at h2
  exact h2
theorem vr_outer (c : ClassId) (N h0 : Nat) : ∀ i : Nat, Jvm.Free.Multi.outerC c N h0 i = arrV c N (fun j => va_rf (if j < i then some (h0 + 1 + j) else none))
  | 0 => by
    show ({ cls := c, slots := Array.replicate N .null, vm := .none } : Cell) = _
    rw [arrV_new]
    refine congrArg (arrV c N) (funext fun j => ?_)
    simp [va_rf]
  | i + 1 => by
    show (Jvm.Free.Multi.outerC c N h0 i).setSlot i (.ref (h0 + 1 + i)) = _
    rw [vr_outer c N h0 i, arrV_store]
    refine congrArg (arrV c N) (funext fun j => ?_)
    by_cases e : j = i
    · subst e
      simp [updV, va_rf]
    · by_cases h : j < i
      · simp [updV, e, h, Nat.lt_succ_of_lt h]
      · simp [updV, e, h, show ¬ j < i + 1 by omega]
section VGM
variable {p : Program} {l : Launch} {e : Env} {R : Room} {s : State} {m : MethodId} {args : Array Value} {below : List Frame} {meth : Method} {c : Code} {H : Heap} {locs : List Loc} {cells slots : Nat} {Q : State → Prop}
variable {cc : ByteArray} {pc : Nat} {ls : Array Slot} {rest : List Value} {D : va_G} {cl : List vw_C} {A : Nat → Prop} {a : Nat} {tys : List (ClassId × FieldType)} {ws : va_W} {H0 : Heap}
theorem va_mna {X : va_W} {L : List Nat} {f : Nat → va_E} {cc : ByteArray} (hexec : p.tables.exec = Jvm.exec) (hb : c.code = cc) {own : String} {index : Nat} {ty : FieldType} {cy : ClassId} (hown : s.vm.findClass own = some m.cls) (hclink : (Cond.classLink own index ("[" ++ (FieldType.array ty).toString)).before args s = true) (hover : va_AOA ty s) (harr : (Cond.arrayClass ty).before args s = true) (hcy : s.vm.findClass (FieldType.array ty).toString = some cy)
    (hK : va_K D cl tys s) (hP : va_P D cl (X ++ va_pl L f) H) (hD : va_D A (X ++ va_pl L f)) (hS : va_S A H0 H locs) (hA : ∀ q, H0.size ≤ q → A q) {n k : Int32} {N' K' : Nat} {z : vp_A} (hn : ¬ n < 0) (hk : ¬ k < 0) (hN : n.toNatClampNeg = N') (hM : k.toNatClampNeg = K')
    (hb1 : N' * 4 ≤ 536870912) (hb2 : K' * componentBytes ty ≤ 536870912) (hb3 : K' ≤ 536870912) (hdf : fits ty (defaultValue ty) = true) (hdd : (defaultValue ty).isDefault = true) (hcells : cells + (1 + N') ≤ R.cells) (hslots : slots + (N' + N' * K') ≤ R.slots) (hz : ∀ c : ClassId, Jvm.Free.Multi.innerC c K' (defaultValue ty) = vp_cell c z) (hdg : decode cc pc = .ok (.multianewarray index 2, 4))
    (kk : ∀ (q : Nat) (r : Nat → Nat) (cA : ClassId) (H1 : Heap), (∀ i j : Nat, i < N' → j < N' → r i = r j → i = j) → (∀ i : Nat, i < N' → r i ∉ L) → va_K D cl (tys ++ [(cA, .array ty)]) s →
      va_P D cl ((X ++ [(q, .inl (cA, N', .inr (.inr (.inr (.inr (fun i => if i < N' then some (r i) else none))))))]) ++ va_pl (L ++ (List.range N').map r) (vr_up f ((List.range N').map r) (.inl (cy, z)))) H1 → va_D A ((X ++ [(q, .inl (cA, N', .inr (.inr (.inr (.inr (fun i => if i < N' then some (r i) else none))))))]) ++ va_pl (L ++ (List.range N').map r) (vr_up f ((List.range N').map r) (.inl (cy, z)))) → va_S A H0 H1 locs →
      W p l e R s m args below meth c H1 locs (cells + 1 + N') (slots + N' + N' * K') Q (F0 m (pc + 4) ls (.ref q :: rest))) : W p l e R s m args below meth c H locs cells slots Q (F0 m pc ls (.int k :: .int n :: rest)) := by
  subst hN
  subst hM
  intro T hT Xs
  obtain ⟨vm₁, cA, comp, -, fA, fC, hO, -, X', step⟩ := Xs.multianewarray2F hexec hown hclink (va_AOA.use hover) harr (g := F0 m pc ls (.int k :: .int n :: rest)) rfl (by rw [hb]; exact hdg) rfl hn hk hb1 hb2 hb3 hdf hdd hcells hslots
  have ec : some cy = some comp := hcy.symm.trans fC
  cases ec
  generalize hF : Jvm.Free.Multi.fill (T.setVm vm₁) cA cy n.toNatClampNeg k.toNatClampNeg (defaultValue ty) n.toNatClampNeg = F at X' step
  have hTh : (T.setVm vm₁).heap = H := hT
  obtain ⟨f1, f2, -, -⟩ := Jvm.Free.Multi.fill_facts (T.setVm vm₁) cA cy n.toNatClampNeg k.toNatClampNeg (defaultValue ty) n.toNatClampNeg
  rw [hF, hTh] at f1 f2
  have hold : ∀ x : Nat, x < H.size → F.heap[x]? = H[x]? := fun x hx => by
    have := Jvm.Free.Multi.fill_old (T.setVm vm₁) cA cy n.toNatClampNeg k.toNatClampNeg (defaultValue ty) (a := x) (by rw [hTh]; exact hx) n.toNatClampNeg
    rw [hF, hTh] at this
    exact this
  have hrow : ∀ j : Nat, j < n.toNatClampNeg → F.heap[H.size + 1 + j]? = some (vp_cell cy z) := fun j hj => by
    have := Jvm.Free.Multi.fill_inner (T.setVm vm₁) cA cy n.toNatClampNeg k.toNatClampNeg (defaultValue ty) n.toNatClampNeg j hj
    rw [hF, hTh, hz] at this
    exact this
  have hout : Jvm.Free.Multi.outerC cA n.toNatClampNeg H.size n.toNatClampNeg = vp_cell cA (n.toNatClampNeg, .inr (.inr (.inr (.inr (fun i => if i < n.toNatClampNeg then some (H.size + 1 + i) else none))))) := by
    rw [vp_cell_q]
    exact vr_outer cA n.toNatClampNeg H.size n.toNatClampNeg
  rw [hout] at f2
  have hlt : ∀ a, a ∈ L → a < H.size := fun a ha => by
    obtain ⟨k9, hk9⟩ := va_pl_get (X := X) (f := f) ha
    exact (hP k9 _ hk9).lt
  have hnl : ∀ i : Nat, i < n.toNatClampNeg → H.size + 1 + i ∉ L := fun i _ h => by
    have := hlt _ h
    omega
  have hnm : ∀ a, a ∈ (List.range n.toNatClampNeg).map (fun i => H.size + 1 + i) → a ∉ L := fun a ha h => by
    obtain ⟨i, -, rfl⟩ := List.mem_map.mp ha
    have := hlt _ h
    omega
  have hP0 : va_P D cl (X ++ va_pl L f) F.heap := hP.kept (fun k9 x hx => hold x.1 ((hP k9 x hx).lt))
  have hP1 : va_P D cl ((X ++ va_pl L f) ++ [(H.size, .inl (cA, n.toNatClampNeg, .inr (.inr (.inr (.inr (fun i => if i < n.toNatClampNeg then some (H.size + 1 + i) else none))))))]) F.heap := hP0.app (fun k9 x hx => by
    have h0 : k9 < 1 := (List.getElem?_eq_some_iff.mp hx).1
    rw [show k9 = 0 by omega] at hx
    cases hx
    exact f2)
  have hP2 : va_P D cl (((X ++ va_pl L f) ++ [(H.size, .inl (cA, n.toNatClampNeg, .inr (.inr (.inr (.inr (fun i => if i < n.toNatClampNeg then some (H.size + 1 + i) else none))))))]) ++ ((List.range n.toNatClampNeg).map (fun i => H.size + 1 + i)).map (fun a => (a, .inl (cy, z)))) F.heap := hP1.app (fun k9 x hx => by
    obtain ⟨a, ha, rfl⟩ := List.mem_map.mp (List.mem_of_getElem? hx)
    obtain ⟨i, hi, rfl⟩ := List.mem_map.mp ha
    exact hrow i (List.mem_range.mp hi))
  have hD2 : va_D A (((X ++ va_pl L f) ++ [(H.size, .inl (cA, n.toNatClampNeg, .inr (.inr (.inr (.inr (fun i => if i < n.toNatClampNeg then some (H.size + 1 + i) else none))))))]) ++ ((List.range n.toNatClampNeg).map (fun i => H.size + 1 + i)).map (fun a => (a, .inl (cy, z)))) := by
    have hD1 := hD.push (e := .inl (cA, n.toNatClampNeg, .inr (.inr (.inr (.inr (fun i => if i < n.toNatClampNeg then some (H.size + 1 + i) else none)))))) hP rfl (hA _ hS.1)
    generalize hW1 : (X ++ va_pl L f) ++ [(H.size, .inl (cA, n.toNatClampNeg, .inr (.inr (.inr (.inr (fun i => if i < n.toNatClampNeg then some (H.size + 1 + i) else none))))))] = W1 at hD1 hP1 ⊢
    have hle : ∀ (k9 : Nat) (x : Nat × va_E), W1[k9]? = some x → x.1 ≤ H.size := fun k9 x hx => by
      rw [← hW1] at hx
      by_cases hl : k9 < (X ++ va_pl L f).length
      · rw [List.getElem?_append_left hl] at hx
        exact Nat.le_of_lt ((hP k9 x hx).lt)
      · rw [List.getElem?_append_right (by omega)] at hx
        have h0 : k9 - (X ++ va_pl L f).length < 1 := (List.getElem?_eq_some_iff.mp hx).1
        rw [show k9 - (X ++ va_pl L f).length = 0 by omega] at hx
        cases hx
        exact Nat.le_refl _
    have hr : ∀ (k9 : Nat) (x : Nat × va_E), (((List.range n.toNatClampNeg).map (fun i => H.size + 1 + i)).map (fun a => ((a, .inl (cy, z)) : Nat × va_E)))[k9]? = some x → x.1 = H.size + 1 + k9 := fun k9 x hx => by
      rw [List.getElem?_map, List.getElem?_map] at hx
      by_cases h9 : k9 < n.toNatClampNeg
      · rw [List.getElem?_range h9] at hx
        cases hx
        rfl
      · have hn0 : (List.range n.toNatClampNeg)[k9]? = none := List.getElem?_eq_none (by rw [List.length_range]; omega)
        rw [hn0] at hx
        cases hx
    refine ⟨fun i j x y hi hj hxy => ?_, fun k9 x hx => ?_⟩
    · by_cases h1 : i < W1.length <;> by_cases h2 : j < W1.length
      · rw [List.getElem?_append_left h1] at hi
        rw [List.getElem?_append_left h2] at hj
        exact hD1.1 i j x y hi hj hxy
      · rw [List.getElem?_append_left h1] at hi
        rw [List.getElem?_append_right (by omega)] at hj
        have := hle _ _ hi
        have := hr _ _ hj
        omega
      · rw [List.getElem?_append_right (by omega)] at hi
        rw [List.getElem?_append_left h2] at hj
        have := hle _ _ hj
        have := hr _ _ hi
        omega
      · rw [List.getElem?_append_right (by omega)] at hi hj
        have := hr _ _ hi
        have := hr _ _ hj
        omega
    · by_cases h1 : k9 < W1.length
      · rw [List.getElem?_append_left h1] at hx
        exact hD1.2 k9 x hx
      · rw [List.getElem?_append_right (by omega)] at hx
        have := hr _ _ hx
        exact hA _ (by have := hS.1; omega)
  have hAr : ArrOfT s cA (.array ty) := fun N9 z9 => by
    obtain ⟨-, k9, hk9, cm9, hkk9⟩ := (hO 0 0 0).1
    exact ⟨(fun q hq => by cases hq), k9, hk9, cm9, hkk9⟩
  have hK2 : va_K D cl (tys ++ [(cA, .array ty)]) s := ⟨hK.1, fun k9 x hx => by
    by_cases hl : k9 < tys.length
    · rw [List.getElem?_append_left hl] at hx
      exact hK.2 k9 x hx
    · rw [List.getElem?_append_right (by omega)] at hx
      have h0 : k9 - tys.length < 1 := (List.getElem?_eq_some_iff.mp hx).1
      rw [show k9 - tys.length = 0 by omega] at hx
      cases hx
      exact ⟨hAr, fA⟩⟩
  obtain ⟨t, a1, b1⟩ := kk H.size (fun i => H.size + 1 + i) cA F.heap (fun i j _ _ h => by have h9 : H.size + 1 + i = H.size + 1 + j := h; omega) hnl hK2 (by rw [← vr_rows hnm]; exact vr_lay hP2) (by rw [← vr_rows hnm]; exact vr_layD hD2) ⟨by rw [f1]; have := hS.1; omega, fun x h1 h2 => (hold x (Nat.lt_of_lt_of_le h1 hS.1)).trans (hS.2.1 x h1 h2), hS.2.2⟩ F rfl X'
  refine ⟨t, step t ?_, b1⟩
  have e : T.heap.size = H.size := by rw [hT]
  rw [e]
  exact a1
end VGM
/-! ===== END ===== -/
theorem va_Dfst {A : Nat → Prop} {ws ws' : va_W} (h : va_D A ws) (e : ws'.map Prod.fst = ws.map Prod.fst) : va_D A ws' := by
  have key : ∀ (k : Nat) (q : Nat × va_E), ws'[k]? = some q → ∃ q0, ws[k]? = some q0 ∧ q0.1 = q.1 := fun k q hk => by
    have h1 : (ws'.map Prod.fst)[k]? = some q.1 := by rw [List.getElem?_map, hk]; rfl
    rw [e, List.getElem?_map] at h1
    cases hq : ws[k]? with
    | none => rw [hq] at h1; cases h1
    | some q0 =>
      rw [hq] at h1
      exact ⟨q0, rfl, Option.some.inj h1⟩
  refine ⟨fun i j x z hi hj hxy => ?_, fun k q hk => ?_⟩
  · obtain ⟨x0, h1, h2⟩ := key i x hi
    obtain ⟨z0, h3, h4⟩ := key j z hj
    exact h.1 i j x0 z0 h1 h3 (h2.trans (hxy.trans h4.symm))
  · obtain ⟨q0, h1, h2⟩ := key k q hk
    rw [← h2]
    exact h.2 k q0 h1
theorem rows_pl {r : Nat → Nat} {cy : ClassId} {f : Nat → va_E} : va_pl ([] ++ (List.range 51).map r) (vr_up f ((List.range 51).map r) (.inl (cy, 601, .inl (fun _ => 0)))) = rowsW r cy := by
  unfold va_pl rowsW
  rw [List.nil_append, List.map_map]
  refine List.map_congr_left fun i hi => ?_
  show (r i, vr_up f ((List.range 51).map r) (.inl (cy, 601, .inl (fun _ => 0))) (r i)) = _
  rw [vr_up_in (List.mem_map.mpr ⟨i, hi, rfl⟩)]
theorem mna : Mna := by
  intro p l e R s m args below meth c H locs cells slots Q cc pc ls rest D cl A tys H0 X hexec hb own index cy hown hclink hover harr hcy hK hP hD hS hA hcells hslots hdg kk
  have hP0 : va_P D cl (X ++ va_pl [] (fun _ => .inr (0, []))) H := by
    rw [show va_pl [] (fun _ => (.inr (0, []) : va_E)) = [] from rfl, List.append_nil]
    exact hP
  have hD0 : va_D A (X ++ va_pl [] (fun _ => .inr (0, []))) := by
    rw [show va_pl [] (fun _ => (.inr (0, []) : va_E)) = [] from rfl, List.append_nil]
    exact hD
  refine va_mna (X := X) (L := []) (f := fun _ => .inr (0, [])) (ty := .int) (cy := cy) (z := (601, .inl (fun _ => 0))) (N' := 51) (K' := 601) hexec hb hown hclink hover harr hcy hK hP0 hD0 hS hA (by decide) (by decide) (by decide) (by decide) (Nat.le_of_ble_eq_true rfl) (Nat.le_of_ble_eq_true rfl) (Nat.le_of_ble_eq_true rfl) rfl rfl (by omega) (by omega) (fun cA => arrV_new cA 601 (.int 0)) hdg (fun q r cA H1 hinj hnl hK1 hP1 hD1 hS1 => ?_)
  rw [rows_pl] at hP1 hD1
  have hat := ref_cg (g := fun i => some (r i)) (va_PR (va_PL hP1) 0 _ rfl) (fun j hj => if_pos hj)
  have hP2 : va_P D cl ((X ++ [(q, .inl (cA, 51, .inr (.inr (.inr (.inr (fun i => some (r i)))))))]) ++ rowsW r cy) H1 := ((va_PL (va_PL hP1)).app (fun k x hx => by
    have h0 : k < 1 := (List.getElem?_eq_some_iff.mp hx).1
    rw [show k = 0 by omega] at hx
    cases hx
    exact hat)).app (va_PR hP1)
  have hD2 : va_D A ((X ++ [(q, .inl (cA, 51, .inr (.inr (.inr (.inr (fun i => some (r i)))))))]) ++ rowsW r cy) := va_Dfst hD1 (by
    rw [List.map_append, List.map_append, List.map_append, List.map_append]
    rfl)
  have k := kk q r cA H1 hK1 hP2 hD2 hS1
  rw [show cells + 52 = cells + 1 + 51 by omega, show slots + 30702 = slots + 51 + 51 * 601 by omega] at k
  exact k
/-- THE LAW, from its entry -/
theorem whole_start {p : Program} {e : Env} {s : State} {m : MethodId} {below : List Frame} {meth : Method} {c : Code} (l : Launch) (hflags : l.flags = flags0) {b L : Nat} {xs : Nat → Int32} (hL : L ≤ 260) (C0 : lw_At p s m meth c b L xs) : W p l e room_1 s m #[Value.ref b] below meth c s.heap [] 0 0 (lw_Z below #[Value.ref b] s) (entryFrame m ([Value.ref b] : List Value).toArray 13) := whole_start_of mna l hflags hL C0
set_option maxHeartbeats 4000000 in
theorem lw_walk (l : Launch) (hflags : l.flags = flags0) (b : Addr) (xs : List Int32) : MetFree l x (headSpec (Jvm.Cond.code x code maxLocals ret :: tables_1) room_1) (lw_P b xs) (fun _ _ _ _ _ => True) lw_Q := by
  refine MetFree.of_bodyS (code := code) (maxLocals := maxLocals) (ret := ret) (by decide) ?_ ?_
  · intro args s m h hn
    obtain ⟨meth, c, h1, h2, h3, h4, h5, h6, -, -⟩ := Cond.code_spec hn (atoms_spec (ws := Jvm.Cond.code x code maxLocals ret :: tables_1) h _ List.mem_cons_self)
    exact ⟨meth, c, h1, h2, h3, h4, h5, h6⟩
  · intro p e s m args below meth c s₁ B hml0 hP _
    obtain ⟨rfl, hx, hbd, hgv⟩ := hP
    obtain ⟨scr, harrAt, hlist, hof, hsmall⟩ := hx
    obtain ⟨hcb, hkn, -, -⟩ := State.arrayAt?_spec harrAt
    have hown : s.vm.findClass R_law = some m.cls := findClass_of_methodNamed B.named
    have hts0 : ∀ c ∈ (Jvm.Cond.code x code maxLocals ret :: tables_1), c.before #[Value.ref b] s = true := atoms_spec (ws := Jvm.Cond.code x code maxLocals ret :: tables_1) B.pre
    have hts : ∀ w ∈ lw_tbl, w.before #[Value.ref b] s = true := k2_hts_sels lw_privs (fun w hw => hts0 w (List.mem_cons_of_mem _ hw)) lw_privs_ok
    have hml : c.maxLocals = 13 := B.maxLocals_eq (hts0 _ List.mem_cons_self)
    have X₀ : Stand p l e room_1 s m #[Value.ref b] below meth c s₁ [] 0 0 := Stand.of_body B
    have hh0 : s₁.heap = s.heap := by rw [B.state]; rfl
    have hsz : scr.slots.size = xs.length := by rw [← Array.length_toList, hlist, List.length_map]
    have hval : ∀ j : Nat, j < xs.length → scr.slots[j]? = some (.int (xs.getD j 0)) := fun j hj => by
      rw [← Array.getElem?_toList, hlist]
      simp [hj]
    have hbl : b < s.heap.size := (Array.getElem?_eq_some_iff.mp hcb).1
    have hX : va_X b xs.length (fun j => xs.getD j 0) s s.heap := ⟨scr, hcb, hof, hkn, hsz, hval⟩
    have K : W p l e room_1 s m #[Value.ref b] below meth c s₁.heap [] 0 0 (lw_Z below #[Value.ref b] s) (entryFrame m ([Value.ref b] : List Value).toArray 13) := by
      rw [hh0]
      exact whole_start l hflags hbd ⟨B.exec, B.bytes, B.returns, hml, hown, hts, hX, hbl, B.notSynchronized, hgv⟩
    obtain ⟨t, a1, o, b1, b2, b3⟩ := K s₁ rfl X₀
    exact ⟨t, o, a1, b1, b2, b3⟩
theorem lw_pre_spec {args : Array Value} {s : State} (h : (Jvm.Cond.and given_1 narrow_1).before args s = true) (hr : rest_1_c.before args s = true) : ∃ (b : Addr) (xs : List Int32), lw_P b xs args s := by
  have hs := flat_of_before _ h
  have hq := flat_of_before _ hr
  have hc : (Cond.count 1).before args s = true := hs _ (by decide +kernel)
  have harr : (Cond.arrayOf (.arg 0) .int).before args s = true := hs _ (by decide +kernel)
  have hle : (Cond.le (.length (.arg 0)) (.int 260)).before args s = true := hs _ (by decide +kernel)
  have hlen : (Cond.isInt (.length (.arg 0))).before args s = true := hq _ (by decide +kernel)
  have hall : (Cond.all (.arg 0) (.isInt (.elem (.arg 0) (.index 0)))).before args s = true := hq _ (by decide +kernel)
  obtain ⟨b, xs, hb, hx⟩ := State.ints_of_pre rfl harr hlen hall
  have hsm : xs.length < 2 ^ 31 := hx.choose_spec.2.2.2
  have hev : (Term.length (.arg 0)).eval args s none [] s = some (.int xs.length.toInt32) := hx.length_eval hb
  have hv := Cond.le_ints hev (show (Term.int 260).eval args s none [] s = some (.int 260) from rfl)
  have hd : xs.length.toInt32 ≤ 260 := by
    simpa [Cond.before, Cond.holds, hv] using hle
  have hN : xs.length ≤ 260 := (Int32.ofNat_le_ofNat hsm (by decide)).mp (show Int32.ofNat xs.length ≤ Int32.ofNat 260 from hd)
  exact ⟨b, xs, Cond.one_arg hc (show args[0]? = some (.ref b) from hb), hx, hN, h⟩
theorem lw_comes (l : Launch) (hflags : l.flags = flags0) : Comes l x (Jvm.Cond.code x code maxLocals ret :: tables_1) room_1 (fun tb e args s => Calls_1 tb e args s ∧ rest_1 tb e args s ∧ Pre_1 tb e args s)
    (fun _ _ args s o t => lw_Q args s o t) := by
  intro p e ha hc hk s m args below hf hfit hheap happ hpre
  obtain ⟨b, xs, hP⟩ := lw_pre_spec hpre.2.2 hpre.2.1
  obtain ⟨k, o, h1, h2, h3, hQ⟩ := lw_walk l hflags b xs p e ha hc hk s m args below hf ((Spec.applies_iff_loose hf).mp happ).1 hP trivial
  exact ⟨k, o, h1, h2, h3, hQ⟩
theorem lw_frame {s t : State} {o : Outcome} {args : Array Value} (h : Framed s o t [] 600000 7302250) :
    Framed s o t (fieldLocs frame_1_writes args s ++ arrayLocs frame_1_arrays args s ++ staticLocs frame_1_statics s) 600000 7302250 := h
theorem lw_limb (L : Cond) (hL : ∀ (args : Array Value) (s t : State), L.after args s (.returned (some (.int 1))) t = true) :
    ArmFor flags0 classFile x code maxLocals ret World_1 tables_1 room_1 Calls_1 rest_1 Pre_1
      (fun tb e a s o t => postC L tb e a s o t ∧ Framed s o t (fieldLocs frame_1_writes a s ++ arrayLocs frame_1_arrays a s ++ staticLocs frame_1_statics s) 600000 7302250) := by
  intro l hflags _ _ p e ha hc hk s m args below hf hfit hheap happ hpre
  obtain ⟨k, o, h1, h2, h3, rfl, hF⟩ := lw_comes l hflags p e ha hc hk s m args below hf hfit hheap happ hpre
  exact ⟨k, _, h1, h2, h3, hL args s _, lw_frame hF⟩
theorem i_vc : Claimed_1_1 ∧ Claimed_1_2 := ⟨lw_limb limb_1_1 (fun args s t => by simp [limb_1_1, Cond.after, Cond.holds, Cond.value]), lw_limb limb_1_2 (fun args s t => Cond.after_iff.mpr (by
  first | (rw [show limb_1_2 = Cond.eq .result (.int 1) from rfl, Cond.eq_ints (x := 1) (y := 1) rfl rfl]; simp; done) | (simp [limb_1_2, Cond.value, Term.eval]; done)))⟩
end
