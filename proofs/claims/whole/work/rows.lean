section
-- ===== PART A: goes FIRST, ahead of the names: the tables' words, and 'selects' of the private methods out of them =====
/-- a private method of a class that the tables say can be made, by its rows of tables_1 -/
def lw_okq (q : MethodName × Nat) : Prop := (q.1.cls ≠ "java/lang/invoke/MethodHandle" ∧ q.1.cls ≠ "java/lang/invoke/VarHandle") ∧ Cond.instantiable q.1.cls q.2 ∈ tables_1 ∧ Cond.privateMethod q.1 ∈ tables_1 ∧ Cond.instanceMethod q.1 ∈ tables_1
theorem lw_p0 : lw_okq (⟨"NewCoins$Coinage", "isValue", "(I)Z"⟩, 4) := ⟨⟨by decide +kernel, by decide +kernel⟩, List.mem_of_getElem? (i := 28) (by decide +kernel), List.mem_of_getElem? (i := 236) (by decide +kernel), List.mem_of_getElem? (i := 237) (by decide +kernel)⟩
theorem lw_p1 : lw_okq (⟨"NewCoins$Coinage", "rank", "(I)V"⟩, 4) := ⟨⟨by decide +kernel, by decide +kernel⟩, List.mem_of_getElem? (i := 28) (by decide +kernel), List.mem_of_getElem? (i := 240) (by decide +kernel), List.mem_of_getElem? (i := 241) (by decide +kernel)⟩
theorem lw_p2 : lw_okq (⟨"NewCoins$Coinage", "improve", "(I)V"⟩, 4) := ⟨⟨by decide +kernel, by decide +kernel⟩, List.mem_of_getElem? (i := 28) (by decide +kernel), List.mem_of_getElem? (i := 244) (by decide +kernel), List.mem_of_getElem? (i := 245) (by decide +kernel)⟩
theorem lw_p3 : lw_okq (⟨"NewCoins", "startOfWays", "()J"⟩, 6) := ⟨⟨by decide +kernel, by decide +kernel⟩, List.mem_of_getElem? (i := 14) (by decide +kernel), List.mem_of_getElem? (i := 308) (by decide +kernel), List.mem_of_getElem? (i := 309) (by decide +kernel)⟩
theorem lw_p4 : lw_okq (⟨"NewCoins$ChangeMaker", "allow", "(IIII)V"⟩, 4) := ⟨⟨by decide +kernel, by decide +kernel⟩, List.mem_of_getElem? (i := 178) (by decide +kernel), List.mem_of_getElem? (i := 411) (by decide +kernel), List.mem_of_getElem? (i := 412) (by decide +kernel)⟩
theorem lw_p5 : lw_okq (⟨"NewCoins$ChangeMaker", "slide", "([I[IIIII)V"⟩, 4) := ⟨⟨by decide +kernel, by decide +kernel⟩, List.mem_of_getElem? (i := 178) (by decide +kernel), List.mem_of_getElem? (i := 415) (by decide +kernel), List.mem_of_getElem? (i := 416) (by decide +kernel)⟩
theorem lw_p6 : lw_okq (⟨"NewCoins$ChangeMaker", "writeRow", "(LNewCoins$Coinage;[II)V"⟩, 4) := ⟨⟨by decide +kernel, by decide +kernel⟩, List.mem_of_getElem? (i := 178) (by decide +kernel), List.mem_of_getElem? (i := 419) (by decide +kernel), List.mem_of_getElem? (i := 420) (by decide +kernel)⟩
theorem lw_p7 : lw_okq (⟨"NewCoins$ChangeMaker", "leadsOn", "(IIII)Z"⟩, 4) := ⟨⟨by decide +kernel, by decide +kernel⟩, List.mem_of_getElem? (i := 178) (by decide +kernel), List.mem_of_getElem? (i := 427) (by decide +kernel), List.mem_of_getElem? (i := 428) (by decide +kernel)⟩
theorem lw_p8 : lw_okq (⟨"NewCoins", "mostLacking", "(LNewCoins$Expected;I)I"⟩, 6) := ⟨⟨by decide +kernel, by decide +kernel⟩, List.mem_of_getElem? (i := 14) (by decide +kernel), List.mem_of_getElem? (i := 476) (by decide +kernel), List.mem_of_getElem? (i := 477) (by decide +kernel)⟩
theorem lw_p9 : lw_okq (⟨"NewCoins$Land", "goodDetail", "(I)I"⟩, 9) := ⟨⟨by decide +kernel, by decide +kernel⟩, List.mem_of_getElem? (i := 22) (by decide +kernel), List.mem_of_getElem? (i := 491) (by decide +kernel), List.mem_of_getElem? (i := 492) (by decide +kernel)⟩
theorem lw_p10 : lw_okq (⟨"NewCoinsModel", "isGood", "(I)Z"⟩, 27) := ⟨⟨by decide +kernel, by decide +kernel⟩, List.mem_of_getElem? (i := 536) (by decide +kernel), List.mem_of_getElem? (i := 643) (by decide +kernel), List.mem_of_getElem? (i := 644) (by decide +kernel)⟩
theorem lw_p11 : lw_okq (⟨"NewCoinsModel", "priceOf", "(II)I"⟩, 27) := ⟨⟨by decide +kernel, by decide +kernel⟩, List.mem_of_getElem? (i := 536) (by decide +kernel), List.mem_of_getElem? (i := 655) (by decide +kernel), List.mem_of_getElem? (i := 656) (by decide +kernel)⟩
theorem lw_p12 : lw_okq (⟨"NewCoinsModel", "gainOf", "(II)J"⟩, 27) := ⟨⟨by decide +kernel, by decide +kernel⟩, List.mem_of_getElem? (i := 536) (by decide +kernel), List.mem_of_getElem? (i := 663) (by decide +kernel), List.mem_of_getElem? (i := 664) (by decide +kernel)⟩
theorem lw_p13 : lw_okq (⟨"NewCoinsModel", "isCoin", "(II)Z"⟩, 27) := ⟨⟨by decide +kernel, by decide +kernel⟩, List.mem_of_getElem? (i := 536) (by decide +kernel), List.mem_of_getElem? (i := 680) (by decide +kernel), List.mem_of_getElem? (i := 681) (by decide +kernel)⟩
theorem lw_p14 : lw_okq (⟨"NewCoinsModel", "noBounds", "()V"⟩, 27) := ⟨⟨by decide +kernel, by decide +kernel⟩, List.mem_of_getElem? (i := 536) (by decide +kernel), List.mem_of_getElem? (i := 684) (by decide +kernel), List.mem_of_getElem? (i := 685) (by decide +kernel)⟩
theorem lw_p15 : lw_okq (⟨"NewCoinsModel", "find", "(II)I"⟩, 27) := ⟨⟨by decide +kernel, by decide +kernel⟩, List.mem_of_getElem? (i := 536) (by decide +kernel), List.mem_of_getElem? (i := 688) (by decide +kernel), List.mem_of_getElem? (i := 689) (by decide +kernel)⟩
def lw_privs_1 : List (MethodName × Nat) := [(⟨"NewCoins$Coinage", "isValue", "(I)Z"⟩, 4), (⟨"NewCoins$Coinage", "rank", "(I)V"⟩, 4), (⟨"NewCoins$Coinage", "improve", "(I)V"⟩, 4), (⟨"NewCoins", "startOfWays", "()J"⟩, 6), (⟨"NewCoins$ChangeMaker", "allow", "(IIII)V"⟩, 4), (⟨"NewCoins$ChangeMaker", "slide", "([I[IIIII)V"⟩, 4), (⟨"NewCoins$ChangeMaker", "writeRow", "(LNewCoins$Coinage;[II)V"⟩, 4), (⟨"NewCoins$ChangeMaker", "leadsOn", "(IIII)Z"⟩, 4), (⟨"NewCoins", "mostLacking", "(LNewCoins$Expected;I)I"⟩, 6), (⟨"NewCoins$Land", "goodDetail", "(I)I"⟩, 9), (⟨"NewCoinsModel", "isGood", "(I)Z"⟩, 27), (⟨"NewCoinsModel", "priceOf", "(II)I"⟩, 27), (⟨"NewCoinsModel", "gainOf", "(II)J"⟩, 27), (⟨"NewCoinsModel", "isCoin", "(II)Z"⟩, 27), (⟨"NewCoinsModel", "noBounds", "()V"⟩, 27), (⟨"NewCoinsModel", "find", "(II)I"⟩, 27)]
theorem lw_r1 : ∀ q ∈ lw_privs_1, lw_okq q := List.forall_mem_cons.mpr ⟨lw_p0, List.forall_mem_cons.mpr ⟨lw_p1, List.forall_mem_cons.mpr ⟨lw_p2, List.forall_mem_cons.mpr ⟨lw_p3, List.forall_mem_cons.mpr ⟨lw_p4, List.forall_mem_cons.mpr ⟨lw_p5, List.forall_mem_cons.mpr ⟨lw_p6, List.forall_mem_cons.mpr ⟨lw_p7, List.forall_mem_cons.mpr ⟨lw_p8, List.forall_mem_cons.mpr ⟨lw_p9, List.forall_mem_cons.mpr ⟨lw_p10, List.forall_mem_cons.mpr ⟨lw_p11, List.forall_mem_cons.mpr ⟨lw_p12, List.forall_mem_cons.mpr ⟨lw_p13, List.forall_mem_cons.mpr ⟨lw_p14, List.forall_mem_cons.mpr ⟨lw_p15, fun _ h => absurd h List.not_mem_nil⟩⟩⟩⟩⟩⟩⟩⟩⟩⟩⟩⟩⟩⟩⟩⟩
theorem lw_p16 : lw_okq (⟨"NewCoinsModel", "sortCoins", "(I)V"⟩, 27) := ⟨⟨by decide +kernel, by decide +kernel⟩, List.mem_of_getElem? (i := 536) (by decide +kernel), List.mem_of_getElem? (i := 692) (by decide +kernel), List.mem_of_getElem? (i := 693) (by decide +kernel)⟩
theorem lw_p17 : lw_okq (⟨"NewCoinsModel", "greedyOf", "(II)I"⟩, 27) := ⟨⟨by decide +kernel, by decide +kernel⟩, List.mem_of_getElem? (i := 536) (by decide +kernel), List.mem_of_getElem? (i := 701) (by decide +kernel), List.mem_of_getElem? (i := 702) (by decide +kernel)⟩
theorem lw_p18 : lw_okq (⟨"NewCoinsModel", "isTill", "(I)Z"⟩, 27) := ⟨⟨by decide +kernel, by decide +kernel⟩, List.mem_of_getElem? (i := 536) (by decide +kernel), List.mem_of_getElem? (i := 720) (by decide +kernel), List.mem_of_getElem? (i := 721) (by decide +kernel)⟩
theorem lw_p19 : lw_okq (⟨"NewCoinsModel", "isSale", "(IIIII)Z"⟩, 27) := ⟨⟨by decide +kernel, by decide +kernel⟩, List.mem_of_getElem? (i := 536) (by decide +kernel), List.mem_of_getElem? (i := 728) (by decide +kernel), List.mem_of_getElem? (i := 729) (by decide +kernel)⟩
theorem lw_p20 : lw_okq (⟨"NewCoinsModel", "over", "(IIII)I"⟩, 27) := ⟨⟨by decide +kernel, by decide +kernel⟩, List.mem_of_getElem? (i := 536) (by decide +kernel), List.mem_of_getElem? (i := 732) (by decide +kernel), List.mem_of_getElem? (i := 733) (by decide +kernel)⟩
theorem lw_p21 : lw_okq (⟨"NewCoinsModel", "parts", "(II)J"⟩, 27) := ⟨⟨by decide +kernel, by decide +kernel⟩, List.mem_of_getElem? (i := 536) (by decide +kernel), List.mem_of_getElem? (i := 744) (by decide +kernel), List.mem_of_getElem? (i := 745) (by decide +kernel)⟩
theorem lw_p22 : lw_okq (⟨"NewCoinsModel", "findWanted", "(I)Z"⟩, 27) := ⟨⟨by decide +kernel, by decide +kernel⟩, List.mem_of_getElem? (i := 536) (by decide +kernel), List.mem_of_getElem? (i := 772) (by decide +kernel), List.mem_of_getElem? (i := 773) (by decide +kernel)⟩
theorem lw_p23 : lw_okq (⟨"NewCoinsModel", "copy", "(II)V"⟩, 27) := ⟨⟨by decide +kernel, by decide +kernel⟩, List.mem_of_getElem? (i := 536) (by decide +kernel), List.mem_of_getElem? (i := 784) (by decide +kernel), List.mem_of_getElem? (i := 785) (by decide +kernel)⟩
def lw_privs_2 : List (MethodName × Nat) := [(⟨"NewCoinsModel", "sortCoins", "(I)V"⟩, 27), (⟨"NewCoinsModel", "greedyOf", "(II)I"⟩, 27), (⟨"NewCoinsModel", "isTill", "(I)Z"⟩, 27), (⟨"NewCoinsModel", "isSale", "(IIIII)Z"⟩, 27), (⟨"NewCoinsModel", "over", "(IIII)I"⟩, 27), (⟨"NewCoinsModel", "parts", "(II)J"⟩, 27), (⟨"NewCoinsModel", "findWanted", "(I)Z"⟩, 27), (⟨"NewCoinsModel", "copy", "(II)V"⟩, 27)]
theorem lw_r2 : ∀ q ∈ lw_privs_2, lw_okq q := List.forall_mem_cons.mpr ⟨lw_p16, List.forall_mem_cons.mpr ⟨lw_p17, List.forall_mem_cons.mpr ⟨lw_p18, List.forall_mem_cons.mpr ⟨lw_p19, List.forall_mem_cons.mpr ⟨lw_p20, List.forall_mem_cons.mpr ⟨lw_p21, List.forall_mem_cons.mpr ⟨lw_p22, List.forall_mem_cons.mpr ⟨lw_p23, fun _ h => absurd h List.not_mem_nil⟩⟩⟩⟩⟩⟩⟩⟩
def lw_privs : List (MethodName × Nat) := lw_privs_1 ++ (lw_privs_2)
def lw_tbl : List Cond := k2_sels lw_privs ++ tables_1
theorem lw_privs_ok : ∀ q ∈ lw_privs, lw_okq q := by
  show ∀ q ∈ lw_privs_1 ++ (lw_privs_2), lw_okq q
  exact List.forall_mem_append.mpr ⟨lw_r1, lw_r2⟩
end
section
def RX0 : String := "NewCoins$ChangeMaker"
def TX0 : u_T := fun k => match k with
  | 0 => ("NewCoins$ChangeMaker", "row", "[I", true)
  | 1 => ("NewCoins$ChangeMaker", "least", "[[I", true)
  | 2 => ("NewCoins$ChangeMaker", "places", "[I", true)
  | _ => ("NewCoins$ChangeMaker", "costs", "[I", true)
def tyX0 : Nat → FieldType := fun k => match k with
  | 0 => .array .int
  | 1 => .array (.array .int)
  | 2 => .array .int
  | _ => .array .int
abbrev wsX00 : List Cond := u_ws RX0 TX0 4
theorem nmX0 : ∀ a, a < 4 → ∀ b, b < 4 → a ≠ b → (TX0 a).2.1 ≠ (TX0 b).2.1 := by decide +kernel
theorem tyX0_ok : ∀ k, k < 4 → parseFieldDescriptor (TX0 k).2.2.1 = some (tyX0 k) := by decide +kernel
abbrev cX0_init : ByteArray := prog_2_method_1_code
def yX0_init : MethodName := ⟨RX0, "<init>", "()V"⟩
abbrev cX0_make : ByteArray := prog_2_method_2_code
def yX0_make : MethodName := ⟨RX0, "make", "(LNewCoins$Coinage;[II)Z"⟩
abbrev cX0_allow : ByteArray := prog_2_method_3_code
def yX0_allow : MethodName := ⟨RX0, "allow", "(IIII)V"⟩
abbrev cX0_slide : ByteArray := prog_2_method_4_code
def yX0_slide : MethodName := ⟨RX0, "slide", "([I[IIIII)V"⟩
abbrev cX0_writeRow : ByteArray := prog_2_method_5_code
def yX0_writeRow : MethodName := ⟨RX0, "writeRow", "(LNewCoins$Coinage;[II)V"⟩
abbrev cX0_leadsOn : ByteArray := prog_2_method_6_code
def yX0_leadsOn : MethodName := ⟨RX0, "leadsOn", "(IIII)Z"⟩
def RX1 : String := "NewCoins$Coinage"
def TX1 : u_T := fun k => match k with
  | 0 => ("NewCoins$Coinage", "count", "I", false)
  | 1 => ("NewCoins$Coinage", "values", "[I", true)
  | 2 => ("NewCoins$Coinage", "falling", "[I", true)
  | _ => ("NewCoins$Coinage", "least", "[I", true)
def tyX1 : Nat → FieldType := fun k => match k with
  | 0 => .int
  | 1 => .array .int
  | 2 => .array .int
  | _ => .array .int
abbrev wsX10 : List Cond := u_ws RX1 TX1 4
theorem nmX1 : ∀ a, a < 4 → ∀ b, b < 4 → a ≠ b → (TX1 a).2.1 ≠ (TX1 b).2.1 := by decide +kernel
theorem tyX1_ok : ∀ k, k < 4 → parseFieldDescriptor (TX1 k).2.2.1 = some (tyX1 k) := by decide +kernel
abbrev cX1_init : ByteArray := prog_3_method_1_code
def yX1_init : MethodName := ⟨RX1, "<init>", "()V"⟩
abbrev cX1_copyFrom : ByteArray := prog_3_method_2_code
def yX1_copyFrom : MethodName := ⟨RX1, "copyFrom", "(LNewCoins$Coinage;)V"⟩
abbrev cX1_isCoin : ByteArray := prog_3_method_3_code
def yX1_isCoin : MethodName := ⟨RX1, "isCoin", "(I)Z"⟩
abbrev cX1_add : ByteArray := prog_3_method_4_code
def yX1_add : MethodName := ⟨RX1, "add", "(I)I"⟩
abbrev cX1_isValue : ByteArray := prog_3_method_5_code
def yX1_isValue : MethodName := ⟨RX1, "isValue", "(I)Z"⟩
abbrev cX1_rank : ByteArray := prog_3_method_6_code
def yX1_rank : MethodName := ⟨RX1, "rank", "(I)V"⟩
abbrev cX1_improve : ByteArray := prog_3_method_7_code
def yX1_improve : MethodName := ⟨RX1, "improve", "(I)V"⟩
abbrev cX1_hasFewest : ByteArray := prog_3_method_8_code
def yX1_hasFewest : MethodName := ⟨RX1, "hasFewest", "(I)Z"⟩
abbrev cX1_writeFewest : ByteArray := prog_3_method_9_code
def yX1_writeFewest : MethodName := ⟨RX1, "writeFewest", "(I[I)V"⟩
abbrev cX1_countGreedily : ByteArray := prog_3_method_10_code
def yX1_countGreedily : MethodName := ⟨RX1, "countGreedily", "(I)I"⟩
abbrev cX1_leastOdd : ByteArray := prog_3_method_11_code
def yX1_leastOdd : MethodName := ⟨RX1, "leastOdd", "()I"⟩
abbrev cX1_detail : ByteArray := prog_3_method_12_code
def yX1_detail : MethodName := ⟨RX1, "detail", "(I)I"⟩
def RX2 : String := "NewCoins$Expected"
def TX2 : u_T := fun k => match k with
  | 0 => ("NewCoins$Expected", "count", "I", false)
  | 1 => ("NewCoins$Expected", "prices", "[I", true)
  | 2 => ("NewCoins$Expected", "systems", "[I", true)
  | 3 => ("NewCoins$Expected", "coins", "[I", true)
  | _ => ("NewCoins$Expected", "numbers", "[I", true)
def tyX2 : Nat → FieldType := fun k => match k with
  | 0 => .int
  | 1 => .array .int
  | 2 => .array .int
  | 3 => .array .int
  | _ => .array .int
abbrev wsX20 : List Cond := u_ws RX2 TX2 5
theorem nmX2 : ∀ a, a < 5 → ∀ b, b < 5 → a ≠ b → (TX2 a).2.1 ≠ (TX2 b).2.1 := by decide +kernel
theorem tyX2_ok : ∀ k, k < 5 → parseFieldDescriptor (TX2 k).2.2.1 = some (tyX2 k) := by decide +kernel
abbrev cX2_init : ByteArray := prog_4_method_1_code
def yX2_init : MethodName := ⟨RX2, "<init>", "()V"⟩
abbrev cX2_copyFrom : ByteArray := prog_4_method_2_code
def yX2_copyFrom : MethodName := ⟨RX2, "copyFrom", "(LNewCoins$Expected;)V"⟩
abbrev cX2_add : ByteArray := prog_4_method_3_code
def yX2_add : MethodName := ⟨RX2, "add", "(IIII)I"⟩
def RX3 : String := "NewCoins$Goods"
def TX3 : u_T := fun k => match k with
  | 0 => ("NewCoins$Goods", "count", "I", false)
  | 1 => ("NewCoins$Goods", "prices", "[I", true)
  | _ => ("NewCoins$Goods", "times", "[I", true)
def tyX3 : Nat → FieldType := fun k => match k with
  | 0 => .int
  | 1 => .array .int
  | _ => .array .int
abbrev wsX30 : List Cond := u_ws RX3 TX3 3
theorem nmX3 : ∀ a, a < 3 → ∀ b, b < 3 → a ≠ b → (TX3 a).2.1 ≠ (TX3 b).2.1 := by decide +kernel
theorem tyX3_ok : ∀ k, k < 3 → parseFieldDescriptor (TX3 k).2.2.1 = some (tyX3 k) := by decide +kernel
abbrev cX3_init : ByteArray := prog_5_method_1_code
def yX3_init : MethodName := ⟨RX3, "<init>", "()V"⟩
abbrev cX3_copyFrom : ByteArray := prog_5_method_2_code
def yX3_copyFrom : MethodName := ⟨RX3, "copyFrom", "(LNewCoins$Goods;)V"⟩
abbrev cX3_isGood : ByteArray := prog_5_method_3_code
def yX3_isGood : MethodName := ⟨RX3, "isGood", "(I)Z"⟩
abbrev cX3_add : ByteArray := prog_5_method_4_code
def yX3_add : MethodName := ⟨RX3, "add", "(II)I"⟩
def RX4 : String := "NewCoins$Land"
def TX4 : u_T := fun k => match k with
  | 0 => ("NewCoins$Land", "old", "LNewCoins$Coinage;", true)
  | 1 => ("NewCoins$Land", "fresh", "LNewCoins$Coinage;", true)
  | 2 => ("NewCoins$Land", "goods", "LNewCoins$Goods;", true)
  | 3 => ("NewCoins$Land", "tills", "[LNewCoins$Till;", true)
  | 4 => ("NewCoins$Land", "drawnIn", "[I", true)
  | 5 => ("NewCoins$Land", "tillCount", "I", false)
  | 6 => ("NewCoins$Land", "a", "I", false)
  | 7 => ("NewCoins$Land", "b", "I", false)
  | _ => ("NewCoins$Land", "step", "I", false)
def tyX4 : Nat → FieldType := fun k => match k with
  | 0 => .object "NewCoins$Coinage"
  | 1 => .object "NewCoins$Coinage"
  | 2 => .object "NewCoins$Goods"
  | 3 => .array (.object "NewCoins$Till")
  | 4 => .array .int
  | 5 => .int
  | 6 => .int
  | 7 => .int
  | _ => .int
abbrev wsX40 : List Cond := u_ws RX4 TX4 9
theorem nmX4 : ∀ a, a < 9 → ∀ b, b < 9 → a ≠ b → (TX4 a).2.1 ≠ (TX4 b).2.1 := by decide +kernel
theorem tyX4_ok : ∀ k, k < 9 → parseFieldDescriptor (TX4 k).2.2.1 = some (tyX4 k) := by decide +kernel
abbrev cX4_init : ByteArray := prog_6_method_1_code
def yX4_init : MethodName := ⟨RX4, "<init>", "()V"⟩
abbrev cX4_copyFrom : ByteArray := prog_6_method_2_code
def yX4_copyFrom : MethodName := ⟨RX4, "copyFrom", "(LNewCoins$Land;)V"⟩
abbrev cX4_coinageOf : ByteArray := prog_6_method_3_code
def yX4_coinageOf : MethodName := ⟨RX4, "coinageOf", "(I)LNewCoins$Coinage;"⟩
abbrev cX4_tillAt : ByteArray := prog_6_method_4_code
def yX4_tillAt : MethodName := ⟨RX4, "tillAt", "(I)LNewCoins$Till;"⟩
abbrev cX4_isCoin : ByteArray := prog_6_method_5_code
def yX4_isCoin : MethodName := ⟨RX4, "isCoin", "(II)Z"⟩
abbrev cX4_isSale : ByteArray := prog_6_method_6_code
def yX4_isSale : MethodName := ⟨RX4, "isSale", "(IIII)Z"⟩
abbrev cX4_hasSold : ByteArray := prog_6_method_7_code
def yX4_hasSold : MethodName := ⟨RX4, "hasSold", "()Z"⟩
abbrev cX4_unitParts : ByteArray := prog_6_method_8_code
def yX4_unitParts : MethodName := ⟨RX4, "unitParts", "(I)I"⟩
abbrev cX4_spareParts : ByteArray := prog_6_method_9_code
def yX4_spareParts : MethodName := ⟨RX4, "spareParts", "(IIII)I"⟩
abbrev cX4_partsOf : ByteArray := prog_6_method_10_code
def yX4_partsOf : MethodName := ⟨RX4, "partsOf", "(I[I)J"⟩
abbrev cX4_newPrice : ByteArray := prog_6_method_11_code
def yX4_newPrice : MethodName := ⟨RX4, "newPrice", "(II)I"⟩
abbrev cX4_roundsUp : ByteArray := prog_6_method_12_code
def yX4_roundsUp : MethodName := ⟨RX4, "roundsUp", "(IIII)Z"⟩
abbrev cX4_gainOf : ByteArray := prog_6_method_13_code
def yX4_gainOf : MethodName := ⟨RX4, "gainOf", "(II)J"⟩
abbrev cX4_detail : ByteArray := prog_6_method_14_code
def yX4_detail : MethodName := ⟨RX4, "detail", "(I)I"⟩
abbrev cX4_goodDetail : ByteArray := prog_6_method_15_code
def yX4_goodDetail : MethodName := ⟨RX4, "goodDetail", "(I)I"⟩
def RX5 : String := "NewCoins$Till"
def TX5 : u_T := fun k => match k with
  | 0 => ("NewCoins$Till", "old", "[I", true)
  | 1 => ("NewCoins$Till", "fresh", "[I", true)
  | 2 => ("NewCoins$Till", "latest", "[I", true)
  | 3 => ("NewCoins$Till", "expected", "LNewCoins$Expected;", true)
  | 4 => ("NewCoins$Till", "sales", "I", false)
  | 5 => ("NewCoins$Till", "scraps", "J", false)
  | _ => ("NewCoins$Till", "takings", "J", false)
def tyX5 : Nat → FieldType := fun k => match k with
  | 0 => .array .int
  | 1 => .array .int
  | 2 => .array .int
  | 3 => .object "NewCoins$Expected"
  | 4 => .int
  | 5 => .long
  | _ => .long
abbrev wsX50 : List Cond := u_ws RX5 TX5 7
theorem nmX5 : ∀ a, a < 7 → ∀ b, b < 7 → a ≠ b → (TX5 a).2.1 ≠ (TX5 b).2.1 := by decide +kernel
theorem tyX5_ok : ∀ k, k < 7 → parseFieldDescriptor (TX5 k).2.2.1 = some (tyX5 k) := by decide +kernel
abbrev cX5_init : ByteArray := prog_7_method_1_code
def yX5_init : MethodName := ⟨RX5, "<init>", "()V"⟩
abbrev cX5_copyFrom : ByteArray := prog_7_method_2_code
def yX5_copyFrom : MethodName := ⟨RX5, "copyFrom", "(LNewCoins$Till;)V"⟩
abbrev cX5_countsOf : ByteArray := prog_7_method_3_code
def yX5_countsOf : MethodName := ⟨RX5, "countsOf", "(I)[I"⟩
abbrev cX5_close : ByteArray := prog_7_method_4_code
def yX5_close : MethodName := ⟨RX5, "close", "(II[I)V"⟩
def RX6 : String := "NewCoins"
def TX6 : u_T := fun k => match k with
  | 0 => ("NewCoins", "now", "LNewCoins$Land;", true)
  | 1 => ("NewCoins", "images", "[LNewCoins$Land;", true)
  | 2 => ("NewCoins", "taken", "[Z", true)
  | 3 => ("NewCoins", "maker", "LNewCoins$ChangeMaker;", true)
  | 4 => ("NewCoins", "fewestRow", "[I", true)
  | _ => ("NewCoins", "turns", "[J", true)
def tyX6 : Nat → FieldType := fun k => match k with
  | 0 => .object "NewCoins$Land"
  | 1 => .array (.object "NewCoins$Land")
  | 2 => .array .boolean
  | 3 => .object "NewCoins$ChangeMaker"
  | 4 => .array .int
  | _ => .array .long
abbrev wsX60 : List Cond := u_ws RX6 TX6 6
theorem nmX6 : ∀ a, a < 6 → ∀ b, b < 6 → a ≠ b → (TX6 a).2.1 ≠ (TX6 b).2.1 := by decide +kernel
theorem tyX6_ok : ∀ k, k < 6 → parseFieldDescriptor (TX6 k).2.2.1 = some (tyX6 k) := by decide +kernel
abbrev cX6_init : ByteArray := prog_1_method_1_code
def yX6_init : MethodName := ⟨RX6, "<init>", "()V"⟩
abbrev cX6_coin : ByteArray := prog_1_method_2_code
def yX6_coin : MethodName := ⟨RX6, "coin", "(II)I"⟩
abbrev cX6_rate : ByteArray := prog_1_method_3_code
def yX6_rate : MethodName := ⟨RX6, "rate", "(II)Z"⟩
abbrev cX6_good : ByteArray := prog_1_method_4_code
def yX6_good : MethodName := ⟨RX6, "good", "(II)I"⟩
abbrev cX6_sold : ByteArray := prog_1_method_5_code
def yX6_sold : MethodName := ⟨RX6, "sold", "(II)Z"⟩
abbrev cX6_step : ByteArray := prog_1_method_6_code
def yX6_step : MethodName := ⟨RX6, "step", "(I)Z"⟩
abbrev cX6_price : ByteArray := prog_1_method_7_code
def yX6_price : MethodName := ⟨RX6, "price", "(II)I"⟩
abbrev cX6_gain : ByteArray := prog_1_method_8_code
def yX6_gain : MethodName := ⟨RX6, "gain", "(I)J"⟩
abbrev cX6_fairest : ByteArray := prog_1_method_9_code
def yX6_fairest : MethodName := ⟨RX6, "fairest", "()I"⟩
abbrev cX6_gains : ByteArray := prog_1_method_10_code
def yX6_gains : MethodName := ⟨RX6, "gains", "(I)J"⟩
abbrev cX6_fewest : ByteArray := prog_1_method_11_code
def yX6_fewest : MethodName := ⟨RX6, "fewest", "(III)I"⟩
abbrev cX6_greedy : ByteArray := prog_1_method_12_code
def yX6_greedy : MethodName := ⟨RX6, "greedy", "(II)I"⟩
abbrev cX6_odd : ByteArray := prog_1_method_13_code
def yX6_odd : MethodName := ⟨RX6, "odd", "(I)I"⟩
abbrev cX6_till : ByteArray := prog_1_method_14_code
def yX6_till : MethodName := ⟨RX6, "till", "()I"⟩
abbrev cX6_put : ByteArray := prog_1_method_15_code
def yX6_put : MethodName := ⟨RX6, "put", "(IIII)I"⟩
abbrev cX6_sale : ByteArray := prog_1_method_16_code
def yX6_sale : MethodName := ⟨RX6, "sale", "(IIIII)I"⟩
abbrev cX6_given : ByteArray := prog_1_method_17_code
def yX6_given : MethodName := ⟨RX6, "given", "(II)I"⟩
abbrev cX6_tell : ByteArray := prog_1_method_18_code
def yX6_tell : MethodName := ⟨RX6, "tell", "(II)J"⟩
abbrev cX6_has : ByteArray := prog_1_method_19_code
def yX6_has : MethodName := ⟨RX6, "has", "(III)I"⟩
abbrev cX6_draw : ByteArray := prog_1_method_20_code
def yX6_draw : MethodName := ⟨RX6, "draw", "(I)J"⟩
abbrev cX6_drawn : ByteArray := prog_1_method_21_code
def yX6_drawn : MethodName := ⟨RX6, "drawn", "(I)I"⟩
abbrev cX6_expect : ByteArray := prog_1_method_22_code
def yX6_expect : MethodName := ⟨RX6, "expect", "(IIIII)I"⟩
abbrev cX6_forget : ByteArray := prog_1_method_23_code
def yX6_forget : MethodName := ⟨RX6, "forget", "(I)Z"⟩
abbrev cX6_wanted : ByteArray := prog_1_method_24_code
def yX6_wanted : MethodName := ⟨RX6, "wanted", "(II)I"⟩
abbrev cX6_about : ByteArray := prog_1_method_25_code
def yX6_about : MethodName := ⟨RX6, "about", "(II)I"⟩
abbrev cX6_image : ByteArray := prog_1_method_26_code
def yX6_image : MethodName := ⟨RX6, "image", "(I)Z"⟩
abbrev cX6_again : ByteArray := prog_1_method_27_code
def yX6_again : MethodName := ⟨RX6, "again", "(I)Z"⟩
abbrev cX6_within : ByteArray := prog_1_method_28_code
def yX6_within : MethodName := ⟨RX6, "within", "(III)Z"⟩
abbrev cX6_isRule : ByteArray := prog_1_method_29_code
def yX6_isRule : MethodName := ⟨RX6, "isRule", "(I)Z"⟩
abbrev cX6_isSum : ByteArray := prog_1_method_30_code
def yX6_isSum : MethodName := ⟨RX6, "isSum", "(I)Z"⟩
abbrev cX6_wholeTimes : ByteArray := prog_1_method_31_code
def yX6_wholeTimes : MethodName := ⟨RX6, "wholeTimes", "(II)I"⟩
abbrev cX6_startOfWays : ByteArray := prog_1_method_32_code
def yX6_startOfWays : MethodName := ⟨RX6, "startOfWays", "()J"⟩
abbrev cX6_mostLacking : ByteArray := prog_1_method_33_code
def yX6_mostLacking : MethodName := ⟨RX6, "mostLacking", "(LNewCoins$Expected;I)I"⟩
def RX7 : String := "NewCoinsModel"
def TX7 : u_T := fun k => match k with
  | 0 => ("NewCoinsModel", "code", "I", false)
  | 1 => ("NewCoinsModel", "coins", "[I", true)
  | 2 => ("NewCoinsModel", "value", "[I", true)
  | 3 => ("NewCoinsModel", "rates", "[I", true)
  | 4 => ("NewCoinsModel", "sales", "[I", true)
  | 5 => ("NewCoinsModel", "goods", "[I", true)
  | 6 => ("NewCoinsModel", "prices", "[I", true)
  | 7 => ("NewCoinsModel", "times", "[I", true)
  | 8 => ("NewCoinsModel", "steps", "[I", true)
  | 9 => ("NewCoinsModel", "tills", "[I", true)
  | 10 => ("NewCoinsModel", "tillSales", "[I", true)
  | 11 => ("NewCoinsModel", "scraps", "[J", true)
  | 12 => ("NewCoinsModel", "paid", "[J", true)
  | 13 => ("NewCoinsModel", "expected", "[I", true)
  | 14 => ("NewCoinsModel", "has", "[I", true)
  | 15 => ("NewCoinsModel", "gave", "[I", true)
  | 16 => ("NewCoinsModel", "drawnIn", "[I", true)
  | 17 => ("NewCoinsModel", "expects", "[I", true)
  | 18 => ("NewCoinsModel", "one", "[J", true)
  | 19 => ("NewCoinsModel", "by", "[I", true)
  | 20 => ("NewCoinsModel", "few", "[I", true)
  | 21 => ("NewCoinsModel", "take", "[I", true)
  | 22 => ("NewCoinsModel", "bound", "[I", true)
  | 23 => ("NewCoinsModel", "least", "[I", true)
  | 24 => ("NewCoinsModel", "pool", "[I", true)
  | 25 => ("NewCoinsModel", "want", "[I", true)
  | _ => ("NewCoinsModel", "kept", "[Z", true)
def tyX7 : Nat → FieldType := fun k => match k with
  | 0 => .int
  | 1 => .array .int
  | 2 => .array .int
  | 3 => .array .int
  | 4 => .array .int
  | 5 => .array .int
  | 6 => .array .int
  | 7 => .array .int
  | 8 => .array .int
  | 9 => .array .int
  | 10 => .array .int
  | 11 => .array .long
  | 12 => .array .long
  | 13 => .array .int
  | 14 => .array .int
  | 15 => .array .int
  | 16 => .array .int
  | 17 => .array .int
  | 18 => .array .long
  | 19 => .array .int
  | 20 => .array .int
  | 21 => .array .int
  | 22 => .array .int
  | 23 => .array .int
  | 24 => .array .int
  | 25 => .array .int
  | _ => .array .boolean
abbrev wsX70 : List Cond := u_ws RX7 TX7 27
theorem nmX7 : ∀ a, a < 27 → ∀ b, b < 27 → a ≠ b → (TX7 a).2.1 ≠ (TX7 b).2.1 := by decide +kernel
theorem tyX7_ok : ∀ k, k < 27 → parseFieldDescriptor (TX7 k).2.2.1 = some (tyX7 k) := by decide +kernel
abbrev cX7_init : ByteArray := prog_9_method_1_code
def yX7_init : MethodName := ⟨RX7, "<init>", "()V"⟩
abbrev cX7_in : ByteArray := prog_9_method_3_code
def yX7_in : MethodName := ⟨RX7, "in", "(III)Z"⟩
abbrev cX7_move : ByteArray := prog_9_method_4_code
def yX7_move : MethodName := ⟨RX7, "move", "([IIII)V"⟩
abbrev cX7_copy : ByteArray := prog_9_method_5_code
def yX7_copy : MethodName := ⟨RX7, "copy", "(II)V"⟩
abbrev cX7_isCoin : ByteArray := prog_9_method_6_code
def yX7_isCoin : MethodName := ⟨RX7, "isCoin", "(II)Z"⟩
abbrev cX7_coin : ByteArray := prog_9_method_7_code
def yX7_coin : MethodName := ⟨RX7, "coin", "(II)I"⟩
abbrev cX7_rate : ByteArray := prog_9_method_8_code
def yX7_rate : MethodName := ⟨RX7, "rate", "(II)Z"⟩
abbrev cX7_isGood : ByteArray := prog_9_method_9_code
def yX7_isGood : MethodName := ⟨RX7, "isGood", "(I)Z"⟩
abbrev cX7_good : ByteArray := prog_9_method_10_code
def yX7_good : MethodName := ⟨RX7, "good", "(II)I"⟩
abbrev cX7_sold : ByteArray := prog_9_method_11_code
def yX7_sold : MethodName := ⟨RX7, "sold", "(II)Z"⟩
abbrev cX7_step : ByteArray := prog_9_method_12_code
def yX7_step : MethodName := ⟨RX7, "step", "(I)Z"⟩
abbrev cX7_priceOf : ByteArray := prog_9_method_13_code
def yX7_priceOf : MethodName := ⟨RX7, "priceOf", "(II)I"⟩
abbrev cX7_price : ByteArray := prog_9_method_14_code
def yX7_price : MethodName := ⟨RX7, "price", "(II)I"⟩
abbrev cX7_gainOf : ByteArray := prog_9_method_15_code
def yX7_gainOf : MethodName := ⟨RX7, "gainOf", "(II)J"⟩
abbrev cX7_gain : ByteArray := prog_9_method_16_code
def yX7_gain : MethodName := ⟨RX7, "gain", "(I)J"⟩
abbrev cX7_fairest : ByteArray := prog_9_method_17_code
def yX7_fairest : MethodName := ⟨RX7, "fairest", "()I"⟩
abbrev cX7_gains : ByteArray := prog_9_method_18_code
def yX7_gains : MethodName := ⟨RX7, "gains", "(I)J"⟩
abbrev cX7_sortCoins : ByteArray := prog_9_method_19_code
def yX7_sortCoins : MethodName := ⟨RX7, "sortCoins", "(I)V"⟩
abbrev cX7_find : ByteArray := prog_9_method_20_code
def yX7_find : MethodName := ⟨RX7, "find", "(II)I"⟩
abbrev cX7_noBounds : ByteArray := prog_9_method_21_code
def yX7_noBounds : MethodName := ⟨RX7, "noBounds", "()V"⟩
abbrev cX7_fewest : ByteArray := prog_9_method_22_code
def yX7_fewest : MethodName := ⟨RX7, "fewest", "(III)I"⟩
abbrev cX7_greedyOf : ByteArray := prog_9_method_23_code
def yX7_greedyOf : MethodName := ⟨RX7, "greedyOf", "(II)I"⟩
abbrev cX7_greedy : ByteArray := prog_9_method_24_code
def yX7_greedy : MethodName := ⟨RX7, "greedy", "(II)I"⟩
abbrev cX7_odd : ByteArray := prog_9_method_25_code
def yX7_odd : MethodName := ⟨RX7, "odd", "(I)I"⟩
abbrev cX7_isTill : ByteArray := prog_9_method_26_code
def yX7_isTill : MethodName := ⟨RX7, "isTill", "(I)Z"⟩
abbrev cX7_cell : ByteArray := prog_9_method_27_code
def yX7_cell : MethodName := ⟨RX7, "cell", "(III)I"⟩
abbrev cX7_till : ByteArray := prog_9_method_28_code
def yX7_till : MethodName := ⟨RX7, "till", "()I"⟩
abbrev cX7_put : ByteArray := prog_9_method_29_code
def yX7_put : MethodName := ⟨RX7, "put", "(IIII)I"⟩
abbrev cX7_over : ByteArray := prog_9_method_30_code
def yX7_over : MethodName := ⟨RX7, "over", "(IIII)I"⟩
abbrev cX7_isSale : ByteArray := prog_9_method_31_code
def yX7_isSale : MethodName := ⟨RX7, "isSale", "(IIIII)Z"⟩
abbrev cX7_sale : ByteArray := prog_9_method_32_code
def yX7_sale : MethodName := ⟨RX7, "sale", "(IIIII)I"⟩
abbrev cX7_given : ByteArray := prog_9_method_33_code
def yX7_given : MethodName := ⟨RX7, "given", "(II)I"⟩
abbrev cX7_parts : ByteArray := prog_9_method_34_code
def yX7_parts : MethodName := ⟨RX7, "parts", "(II)J"⟩
abbrev cX7_tell : ByteArray := prog_9_method_35_code
def yX7_tell : MethodName := ⟨RX7, "tell", "(II)J"⟩
abbrev cX7_has : ByteArray := prog_9_method_36_code
def yX7_has : MethodName := ⟨RX7, "has", "(III)I"⟩
abbrev cX7_draw : ByteArray := prog_9_method_37_code
def yX7_draw : MethodName := ⟨RX7, "draw", "(I)J"⟩
abbrev cX7_drawn : ByteArray := prog_9_method_38_code
def yX7_drawn : MethodName := ⟨RX7, "drawn", "(I)I"⟩
abbrev cX7_expect : ByteArray := prog_9_method_39_code
def yX7_expect : MethodName := ⟨RX7, "expect", "(IIIII)I"⟩
abbrev cX7_forget : ByteArray := prog_9_method_40_code
def yX7_forget : MethodName := ⟨RX7, "forget", "(I)Z"⟩
abbrev cX7_findWanted : ByteArray := prog_9_method_41_code
def yX7_findWanted : MethodName := ⟨RX7, "findWanted", "(I)Z"⟩
abbrev cX7_wanted : ByteArray := prog_9_method_42_code
def yX7_wanted : MethodName := ⟨RX7, "wanted", "(II)I"⟩
abbrev cX7_about : ByteArray := prog_9_method_43_code
def yX7_about : MethodName := ⟨RX7, "about", "(II)I"⟩
abbrev cX7_image : ByteArray := prog_9_method_44_code
def yX7_image : MethodName := ⟨RX7, "image", "(I)Z"⟩
abbrev cX7_again : ByteArray := prog_9_method_45_code
def yX7_again : MethodName := ⟨RX7, "again", "(I)Z"⟩
def RJ6 : String := "java/lang/Integer"
def TJ6 : u_T := fun k => match k with
  | _ => ("", "", "", false)
def tyJ6 : Nat → FieldType := fun k => match k with
  | _ => .int
abbrev wsJ60 : List Cond := u_ws RJ6 TJ6 0
theorem nmJ6 : ∀ a, a < 0 → ∀ b, b < 0 → a ≠ b → (TJ6 a).2.1 ≠ (TJ6 b).2.1 := by decide +kernel
theorem tyJ6_ok : ∀ k, k < 0 → parseFieldDescriptor (TJ6 k).2.2.1 = some (tyJ6 k) := by decide +kernel
abbrev cJ6_bitCount_0f7a4 : ByteArray := prog_10_method_49_code
def yJ6_bitCount_0f7a4 : MethodName := ⟨RJ6, "bitCount", "(I)I"⟩
def RJ9 : String := "java/lang/Math"
def TJ9 : u_T := fun k => match k with
  | _ => ("", "", "", false)
def tyJ9 : Nat → FieldType := fun k => match k with
  | _ => .int
abbrev wsJ90 : List Cond := u_ws RJ9 TJ9 0
theorem nmJ9 : ∀ a, a < 0 → ∀ b, b < 0 → a ≠ b → (TJ9 a).2.1 ≠ (TJ9 b).2.1 := by decide +kernel
theorem tyJ9_ok : ∀ k, k < 0 → parseFieldDescriptor (TJ9 k).2.2.1 = some (tyJ9 k) := by decide +kernel
abbrev cJ9_abs_067f4 : ByteArray := prog_11_method_61_code
def yJ9_abs_067f4 : MethodName := ⟨RJ9, "abs", "(J)J"⟩
abbrev cJ9_max_7cf53 : ByteArray := prog_11_method_65_code
def yJ9_max_7cf53 : MethodName := ⟨RJ9, "max", "(II)I"⟩
abbrev cJ9_min_7cf53 : ByteArray := prog_11_method_69_code
def yJ9_min_7cf53 : MethodName := ⟨RJ9, "min", "(II)I"⟩
def RJ10 : String := "java/lang/System"
def TJ10 : u_T := fun k => match k with
  | _ => ("", "", "", false)
def tyJ10 : Nat → FieldType := fun k => match k with
  | _ => .int
abbrev wsJ100 : List Cond := u_ws RJ10 TJ10 0
theorem nmJ10 : ∀ a, a < 0 → ∀ b, b < 0 → a ≠ b → (TJ10 a).2.1 ≠ (TJ10 b).2.1 := by decide +kernel
theorem tyJ10_ok : ∀ k, k < 0 → parseFieldDescriptor (TJ10 k).2.2.1 = some (tyJ10 k) := by decide +kernel
def RJ7 : String := "java/util/Arrays"
def TJ7 : u_T := fun k => match k with
  | _ => ("", "", "", false)
def tyJ7 : Nat → FieldType := fun k => match k with
  | _ => .int
abbrev wsJ70 : List Cond := u_ws RJ7 TJ7 0
theorem nmJ7 : ∀ a, a < 0 → ∀ b, b < 0 → a ≠ b → (TJ7 a).2.1 ≠ (TJ7 b).2.1 := by decide +kernel
theorem tyJ7_ok : ∀ k, k < 0 → parseFieldDescriptor (TJ7 k).2.2.1 = some (tyJ7 k) := by decide +kernel
abbrev cJ7_fill_53178 : ByteArray := prog_13_method_103_code
def yJ7_fill_53178 : MethodName := ⟨RJ7, "fill", "([II)V"⟩
def RL : String := "NewCoinsLaw"
abbrev cL_law : ByteArray := code
def yL_law : MethodName := ⟨RL, "law", "([I)Z"⟩
abbrev vwCl : List vw_C := [(RX0, TX0, 4), (RX1, TX1, 4), (RX2, TX2, 5), (RX3, TX3, 3), (RX4, TX4, 9), (RX5, TX5, 7), (RX6, TX6, 6), (RX7, TX7, 27)]
end
section
/-! the words of the tables that a call may pay with; each by its place -/
def nT : List Cond := lw_tbl.filter goodWord
theorem nT_in {w : Cond} {i : Nat} (h : lw_tbl[i]? = some w) (hg : goodWord w = true) : w ∈ nT := List.mem_filter.mpr ⟨List.mem_of_getElem? h, hg⟩
theorem nT_g {w : Cond} (h : w ∈ nT) : goodWord w = true := (List.mem_filter.mp h).2
theorem ws_X1_isValue : Cond.selects RX1 yX1_isValue yX1_isValue ∈ nT := nT_in (i := 0) (by decide +kernel) (by decide +kernel)
theorem ws_X1_rank : Cond.selects RX1 yX1_rank yX1_rank ∈ nT := nT_in (i := 1) (by decide +kernel) (by decide +kernel)
theorem ws_X1_improve : Cond.selects RX1 yX1_improve yX1_improve ∈ nT := nT_in (i := 2) (by decide +kernel) (by decide +kernel)
theorem ws_X6_startOfWays : Cond.selects RX6 yX6_startOfWays yX6_startOfWays ∈ nT := nT_in (i := 3) (by decide +kernel) (by decide +kernel)
theorem ws_X0_allow : Cond.selects RX0 yX0_allow yX0_allow ∈ nT := nT_in (i := 4) (by decide +kernel) (by decide +kernel)
theorem ws_X0_slide : Cond.selects RX0 yX0_slide yX0_slide ∈ nT := nT_in (i := 5) (by decide +kernel) (by decide +kernel)
theorem ws_X0_writeRow : Cond.selects RX0 yX0_writeRow yX0_writeRow ∈ nT := nT_in (i := 6) (by decide +kernel) (by decide +kernel)
theorem ws_X0_leadsOn : Cond.selects RX0 yX0_leadsOn yX0_leadsOn ∈ nT := nT_in (i := 7) (by decide +kernel) (by decide +kernel)
theorem ws_X6_mostLacking : Cond.selects RX6 yX6_mostLacking yX6_mostLacking ∈ nT := nT_in (i := 8) (by decide +kernel) (by decide +kernel)
theorem ws_X4_goodDetail : Cond.selects RX4 yX4_goodDetail yX4_goodDetail ∈ nT := nT_in (i := 9) (by decide +kernel) (by decide +kernel)
theorem ws_X7_isGood : Cond.selects RX7 yX7_isGood yX7_isGood ∈ nT := nT_in (i := 10) (by decide +kernel) (by decide +kernel)
theorem ws_X7_priceOf : Cond.selects RX7 yX7_priceOf yX7_priceOf ∈ nT := nT_in (i := 11) (by decide +kernel) (by decide +kernel)
theorem ws_X7_gainOf : Cond.selects RX7 yX7_gainOf yX7_gainOf ∈ nT := nT_in (i := 12) (by decide +kernel) (by decide +kernel)
theorem ws_X7_isCoin : Cond.selects RX7 yX7_isCoin yX7_isCoin ∈ nT := nT_in (i := 13) (by decide +kernel) (by decide +kernel)
theorem ws_X7_noBounds : Cond.selects RX7 yX7_noBounds yX7_noBounds ∈ nT := nT_in (i := 14) (by decide +kernel) (by decide +kernel)
theorem ws_X7_find : Cond.selects RX7 yX7_find yX7_find ∈ nT := nT_in (i := 15) (by decide +kernel) (by decide +kernel)
theorem ws_X7_sortCoins : Cond.selects RX7 yX7_sortCoins yX7_sortCoins ∈ nT := nT_in (i := 16) (by decide +kernel) (by decide +kernel)
theorem ws_X7_greedyOf : Cond.selects RX7 yX7_greedyOf yX7_greedyOf ∈ nT := nT_in (i := 17) (by decide +kernel) (by decide +kernel)
theorem ws_X7_isTill : Cond.selects RX7 yX7_isTill yX7_isTill ∈ nT := nT_in (i := 18) (by decide +kernel) (by decide +kernel)
theorem ws_X7_isSale : Cond.selects RX7 yX7_isSale yX7_isSale ∈ nT := nT_in (i := 19) (by decide +kernel) (by decide +kernel)
theorem ws_X7_over : Cond.selects RX7 yX7_over yX7_over ∈ nT := nT_in (i := 20) (by decide +kernel) (by decide +kernel)
theorem ws_X7_parts : Cond.selects RX7 yX7_parts yX7_parts ∈ nT := nT_in (i := 21) (by decide +kernel) (by decide +kernel)
theorem ws_X7_findWanted : Cond.selects RX7 yX7_findWanted yX7_findWanted ∈ nT := nT_in (i := 22) (by decide +kernel) (by decide +kernel)
theorem ws_X7_copy : Cond.selects RX7 yX7_copy yX7_copy ∈ nT := nT_in (i := 23) (by decide +kernel) (by decide +kernel)
theorem wn_L : Cond.initialized RL ∈ nT := nT_in (i := 24) (by decide +kernel) (by decide +kernel)
theorem wn_X6 : Cond.initialized RX6 ∈ nT := nT_in (i := 25) (by decide +kernel) (by decide +kernel)
theorem wn_X4 : Cond.initialized RX4 ∈ nT := nT_in (i := 26) (by decide +kernel) (by decide +kernel)
theorem wn_X1 : Cond.initialized RX1 ∈ nT := nT_in (i := 27) (by decide +kernel) (by decide +kernel)
theorem wn_J7 : Cond.initialized RJ7 ∈ nT := nT_in (i := 28) (by decide +kernel) (by decide +kernel)
theorem wn_X3 : Cond.initialized RX3 ∈ nT := nT_in (i := 29) (by decide +kernel) (by decide +kernel)
theorem wn_X5 : Cond.initialized RX5 ∈ nT := nT_in (i := 30) (by decide +kernel) (by decide +kernel)
theorem wn_X2 : Cond.initialized RX2 ∈ nT := nT_in (i := 31) (by decide +kernel) (by decide +kernel)
theorem wn_X0 : Cond.initialized RX0 ∈ nT := nT_in (i := 32) (by decide +kernel) (by decide +kernel)
theorem wn_X7 : Cond.initialized RX7 ∈ nT := nT_in (i := 33) (by decide +kernel) (by decide +kernel)
theorem wn_J9 : Cond.initialized RJ9 ∈ nT := nT_in (i := 34) (by decide +kernel) (by decide +kernel)
theorem wn_J6 : Cond.initialized RJ6 ∈ nT := nT_in (i := 35) (by decide +kernel) (by decide +kernel)
theorem wn_J10 : Cond.initialized RJ10 ∈ nT := nT_in (i := 36) (by decide +kernel) (by decide +kernel)
theorem wq_L_7 : Cond.classLink RL 7 RX6 ∈ nT := nT_in (i := 37) (by decide +kernel) (by decide +kernel)
theorem wo_X6 : Cond.instantiable RX6 6 ∈ nT := nT_in (i := 38) (by decide +kernel) (by decide +kernel)
theorem wl_L_9 : Cond.methodLink RL 9 yX6_init ∈ nT := nT_in (i := 39) (by decide +kernel) (by decide +kernel)
theorem wi_X6_init : Cond.instanceMethod yX6_init ∈ nT := nT_in (i := 40) (by decide +kernel) (by decide +kernel)
set_option maxRecDepth 100000 in
theorem wc_X6_init : Cond.code yX6_init cX6_init 2 (none : Option Jvm.ClassFile.FieldType) ∈ nT := nT_in (i := 41) rfl (by decide +kernel)
theorem wl_X6_1 : Cond.methodLink RX6 1 objectInit ∈ nT := nT_in (i := 42) (by decide +kernel) (by decide +kernel)
theorem wi_objectInit : Cond.instanceMethod objectInit ∈ nT := nT_in (i := 43) (by decide +kernel) (by decide +kernel)
theorem wc_objectInit : Cond.code objectInit ⟨#[0xb1]⟩ 1 none ∈ nT := nT_in (i := 44) (by decide +kernel) (by decide +kernel)
theorem wq_X6_7 : Cond.classLink RX6 7 RX4 ∈ nT := nT_in (i := 45) (by decide +kernel) (by decide +kernel)
theorem wo_X4 : Cond.instantiable RX4 9 ∈ nT := nT_in (i := 46) (by decide +kernel) (by decide +kernel)
theorem wl_X6_9 : Cond.methodLink RX6 9 yX4_init ∈ nT := nT_in (i := 47) (by decide +kernel) (by decide +kernel)
theorem wi_X4_init : Cond.instanceMethod yX4_init ∈ nT := nT_in (i := 48) (by decide +kernel) (by decide +kernel)
set_option maxRecDepth 100000 in
theorem wc_X4_init : Cond.code yX4_init cX4_init 2 (none : Option Jvm.ClassFile.FieldType) ∈ nT := nT_in (i := 49) rfl (by decide +kernel)
theorem wl_X4_3 : Cond.methodLink RX4 3 objectInit ∈ nT := nT_in (i := 50) (by decide +kernel) (by decide +kernel)
theorem wq_X4_9 : Cond.classLink RX4 9 RX1 ∈ nT := nT_in (i := 51) (by decide +kernel) (by decide +kernel)
theorem wo_X1 : Cond.instantiable RX1 4 ∈ nT := nT_in (i := 52) (by decide +kernel) (by decide +kernel)
theorem wl_X4_11 : Cond.methodLink RX4 11 yX1_init ∈ nT := nT_in (i := 53) (by decide +kernel) (by decide +kernel)
theorem wi_X1_init : Cond.instanceMethod yX1_init ∈ nT := nT_in (i := 54) (by decide +kernel) (by decide +kernel)
set_option maxRecDepth 100000 in
theorem wc_X1_init : Cond.code yX1_init cX1_init 1 (none : Option Jvm.ClassFile.FieldType) ∈ nT := nT_in (i := 55) rfl (by decide +kernel)
theorem wl_X1_3 : Cond.methodLink RX1 3 objectInit ∈ nT := nT_in (i := 56) (by decide +kernel) (by decide +kernel)
theorem wl_X1_25 : Cond.methodLink RX1 25 yJ7_fill_53178 ∈ nT := nT_in (i := 57) (by decide +kernel) (by decide +kernel)
theorem wt_J7_fill_53178 : Cond.static yJ7_fill_53178 ∈ nT := nT_in (i := 58) (by decide +kernel) (by decide +kernel)
set_option maxRecDepth 100000 in
theorem wc_J7_fill_53178 : Cond.code yJ7_fill_53178 cJ7_fill_53178 4 (none : Option Jvm.ClassFile.FieldType) ∈ nT := nT_in (i := 59) rfl (by decide +kernel)
theorem wf_X1_9 : Cond.fieldLink RX1 9 "NewCoins$Coinage" "count" "I" ∈ nT := nT_in (i := 60) (by decide +kernel) (by decide +kernel)
theorem wf_X0_36 : Cond.fieldLink RX0 36 "NewCoins$Coinage" "count" "I" ∈ nT := nT_in (i := 61) (by decide +kernel) (by decide +kernel)
theorem wf_X4_93 : Cond.fieldLink RX4 93 "NewCoins$Coinage" "count" "I" ∈ nT := nT_in (i := 62) (by decide +kernel) (by decide +kernel)
theorem wf_X1_15 : Cond.fieldLink RX1 15 "NewCoins$Coinage" "values" "[I" ∈ nT := nT_in (i := 63) (by decide +kernel) (by decide +kernel)
theorem wf_X0_45 : Cond.fieldLink RX0 45 "NewCoins$Coinage" "values" "[I" ∈ nT := nT_in (i := 64) (by decide +kernel) (by decide +kernel)
theorem wf_X4_86 : Cond.fieldLink RX4 86 "NewCoins$Coinage" "values" "[I" ∈ nT := nT_in (i := 65) (by decide +kernel) (by decide +kernel)
theorem wf_X1_19 : Cond.fieldLink RX1 19 "NewCoins$Coinage" "falling" "[I" ∈ nT := nT_in (i := 66) (by decide +kernel) (by decide +kernel)
theorem wf_X0_42 : Cond.fieldLink RX0 42 "NewCoins$Coinage" "falling" "[I" ∈ nT := nT_in (i := 67) (by decide +kernel) (by decide +kernel)
theorem wf_X1_22 : Cond.fieldLink RX1 22 "NewCoins$Coinage" "least" "[I" ∈ nT := nT_in (i := 68) (by decide +kernel) (by decide +kernel)
theorem wf_X6_114 : Cond.fieldLink RX6 114 "NewCoins$Coinage" "least" "[I" ∈ nT := nT_in (i := 69) (by decide +kernel) (by decide +kernel)
theorem wy_X1_count : Cond.lays "NewCoins$Coinage" "NewCoins$Coinage" "count" "I" ∈ nT := nT_in (i := 70) (by decide +kernel) (by decide +kernel)
theorem wy_X1_values : Cond.laysFinal "NewCoins$Coinage" "NewCoins$Coinage" "values" "[I" ∈ nT := nT_in (i := 72) (by decide +kernel) (by decide +kernel)
theorem wy_X1_falling : Cond.laysFinal "NewCoins$Coinage" "NewCoins$Coinage" "falling" "[I" ∈ nT := nT_in (i := 74) (by decide +kernel) (by decide +kernel)
theorem wy_X1_least : Cond.laysFinal "NewCoins$Coinage" "NewCoins$Coinage" "least" "[I" ∈ nT := nT_in (i := 76) (by decide +kernel) (by decide +kernel)
theorem wa_int : Cond.arrayClass .int ∈ nT := nT_in (i := 79) (by decide +kernel) (by decide +kernel)
theorem wq_X4_21 : Cond.classLink RX4 21 RX3 ∈ nT := nT_in (i := 80) (by decide +kernel) (by decide +kernel)
theorem wo_X3 : Cond.instantiable RX3 3 ∈ nT := nT_in (i := 81) (by decide +kernel) (by decide +kernel)
theorem wi_X3_init : Cond.instanceMethod yX3_init ∈ nT := nT_in (i := 83) (by decide +kernel) (by decide +kernel)
set_option maxRecDepth 100000 in
theorem wc_X3_init : Cond.code yX3_init cX3_init 1 (none : Option Jvm.ClassFile.FieldType) ∈ nT := nT_in (i := 84) rfl (by decide +kernel)
theorem wl_X3_3 : Cond.methodLink RX3 3 objectInit ∈ nT := nT_in (i := 85) (by decide +kernel) (by decide +kernel)
theorem wf_X3_9 : Cond.fieldLink RX3 9 "NewCoins$Goods" "count" "I" ∈ nT := nT_in (i := 86) (by decide +kernel) (by decide +kernel)
theorem wf_X6_89 : Cond.fieldLink RX6 89 "NewCoins$Goods" "count" "I" ∈ nT := nT_in (i := 87) (by decide +kernel) (by decide +kernel)
theorem wf_X4_113 : Cond.fieldLink RX4 113 "NewCoins$Goods" "count" "I" ∈ nT := nT_in (i := 88) (by decide +kernel) (by decide +kernel)
theorem wf_X3_15 : Cond.fieldLink RX3 15 "NewCoins$Goods" "prices" "[I" ∈ nT := nT_in (i := 89) (by decide +kernel) (by decide +kernel)
theorem wf_X4_96 : Cond.fieldLink RX4 96 "NewCoins$Goods" "prices" "[I" ∈ nT := nT_in (i := 90) (by decide +kernel) (by decide +kernel)
theorem wf_X3_19 : Cond.fieldLink RX3 19 "NewCoins$Goods" "times" "[I" ∈ nT := nT_in (i := 91) (by decide +kernel) (by decide +kernel)
theorem wf_X6_77 : Cond.fieldLink RX6 77 "NewCoins$Goods" "times" "[I" ∈ nT := nT_in (i := 92) (by decide +kernel) (by decide +kernel)
theorem wf_X4_110 : Cond.fieldLink RX4 110 "NewCoins$Goods" "times" "[I" ∈ nT := nT_in (i := 93) (by decide +kernel) (by decide +kernel)
theorem wy_X3_count : Cond.lays "NewCoins$Goods" "NewCoins$Goods" "count" "I" ∈ nT := nT_in (i := 94) (by decide +kernel) (by decide +kernel)
theorem wy_X3_prices : Cond.laysFinal "NewCoins$Goods" "NewCoins$Goods" "prices" "[I" ∈ nT := nT_in (i := 96) (by decide +kernel) (by decide +kernel)
theorem wy_X3_times : Cond.laysFinal "NewCoins$Goods" "NewCoins$Goods" "times" "[I" ∈ nT := nT_in (i := 98) (by decide +kernel) (by decide +kernel)
theorem wq_X4_28 : Cond.classLink RX4 28 RX5 ∈ nT := nT_in (i := 101) (by decide +kernel) (by decide +kernel)
theorem wo_X5 : Cond.instantiable RX5 7 ∈ nT := nT_in (i := 103) (by decide +kernel) (by decide +kernel)
theorem wi_X5_init : Cond.instanceMethod yX5_init ∈ nT := nT_in (i := 105) (by decide +kernel) (by decide +kernel)
set_option maxRecDepth 100000 in
theorem wc_X5_init : Cond.code yX5_init cX5_init 1 (none : Option Jvm.ClassFile.FieldType) ∈ nT := nT_in (i := 106) rfl (by decide +kernel)
theorem wl_X5_3 : Cond.methodLink RX5 3 objectInit ∈ nT := nT_in (i := 107) (by decide +kernel) (by decide +kernel)
theorem wq_X5_21 : Cond.classLink RX5 21 RX2 ∈ nT := nT_in (i := 108) (by decide +kernel) (by decide +kernel)
theorem wo_X2 : Cond.instantiable RX2 5 ∈ nT := nT_in (i := 109) (by decide +kernel) (by decide +kernel)
theorem wi_X2_init : Cond.instanceMethod yX2_init ∈ nT := nT_in (i := 111) (by decide +kernel) (by decide +kernel)
set_option maxRecDepth 100000 in
theorem wc_X2_init : Cond.code yX2_init cX2_init 1 (none : Option Jvm.ClassFile.FieldType) ∈ nT := nT_in (i := 112) rfl (by decide +kernel)
theorem wl_X2_3 : Cond.methodLink RX2 3 objectInit ∈ nT := nT_in (i := 113) (by decide +kernel) (by decide +kernel)
theorem wf_X2_9 : Cond.fieldLink RX2 9 "NewCoins$Expected" "count" "I" ∈ nT := nT_in (i := 114) (by decide +kernel) (by decide +kernel)
theorem wf_X6_206 : Cond.fieldLink RX6 206 "NewCoins$Expected" "count" "I" ∈ nT := nT_in (i := 115) (by decide +kernel) (by decide +kernel)
theorem wf_X2_15 : Cond.fieldLink RX2 15 "NewCoins$Expected" "prices" "[I" ∈ nT := nT_in (i := 116) (by decide +kernel) (by decide +kernel)
theorem wf_X6_229 : Cond.fieldLink RX6 229 "NewCoins$Expected" "prices" "[I" ∈ nT := nT_in (i := 117) (by decide +kernel) (by decide +kernel)
theorem wf_X2_19 : Cond.fieldLink RX2 19 "NewCoins$Expected" "systems" "[I" ∈ nT := nT_in (i := 118) (by decide +kernel) (by decide +kernel)
theorem wf_X6_232 : Cond.fieldLink RX6 232 "NewCoins$Expected" "systems" "[I" ∈ nT := nT_in (i := 119) (by decide +kernel) (by decide +kernel)
theorem wf_X2_22 : Cond.fieldLink RX2 22 "NewCoins$Expected" "coins" "[I" ∈ nT := nT_in (i := 120) (by decide +kernel) (by decide +kernel)
theorem wf_X6_235 : Cond.fieldLink RX6 235 "NewCoins$Expected" "coins" "[I" ∈ nT := nT_in (i := 121) (by decide +kernel) (by decide +kernel)
theorem wf_X2_25 : Cond.fieldLink RX2 25 "NewCoins$Expected" "numbers" "[I" ∈ nT := nT_in (i := 122) (by decide +kernel) (by decide +kernel)
theorem wf_X6_226 : Cond.fieldLink RX6 226 "NewCoins$Expected" "numbers" "[I" ∈ nT := nT_in (i := 123) (by decide +kernel) (by decide +kernel)
theorem wy_X2_count : Cond.lays "NewCoins$Expected" "NewCoins$Expected" "count" "I" ∈ nT := nT_in (i := 124) (by decide +kernel) (by decide +kernel)
theorem wy_X2_prices : Cond.laysFinal "NewCoins$Expected" "NewCoins$Expected" "prices" "[I" ∈ nT := nT_in (i := 126) (by decide +kernel) (by decide +kernel)
theorem wy_X2_systems : Cond.laysFinal "NewCoins$Expected" "NewCoins$Expected" "systems" "[I" ∈ nT := nT_in (i := 128) (by decide +kernel) (by decide +kernel)
theorem wy_X2_coins : Cond.laysFinal "NewCoins$Expected" "NewCoins$Expected" "coins" "[I" ∈ nT := nT_in (i := 130) (by decide +kernel) (by decide +kernel)
theorem wy_X2_numbers : Cond.laysFinal "NewCoins$Expected" "NewCoins$Expected" "numbers" "[I" ∈ nT := nT_in (i := 132) (by decide +kernel) (by decide +kernel)
theorem wf_X5_9 : Cond.fieldLink RX5 9 "NewCoins$Till" "old" "[I" ∈ nT := nT_in (i := 135) (by decide +kernel) (by decide +kernel)
theorem wf_X6_192 : Cond.fieldLink RX6 192 "NewCoins$Till" "old" "[I" ∈ nT := nT_in (i := 136) (by decide +kernel) (by decide +kernel)
theorem wf_X5_15 : Cond.fieldLink RX5 15 "NewCoins$Till" "fresh" "[I" ∈ nT := nT_in (i := 137) (by decide +kernel) (by decide +kernel)
theorem wf_X6_167 : Cond.fieldLink RX6 167 "NewCoins$Till" "fresh" "[I" ∈ nT := nT_in (i := 138) (by decide +kernel) (by decide +kernel)
theorem wf_X5_18 : Cond.fieldLink RX5 18 "NewCoins$Till" "latest" "[I" ∈ nT := nT_in (i := 139) (by decide +kernel) (by decide +kernel)
theorem wf_X6_183 : Cond.fieldLink RX6 183 "NewCoins$Till" "latest" "[I" ∈ nT := nT_in (i := 140) (by decide +kernel) (by decide +kernel)
theorem wf_X5_24 : Cond.fieldLink RX5 24 "NewCoins$Till" "expected" "LNewCoins$Expected;" ∈ nT := nT_in (i := 141) (by decide +kernel) (by decide +kernel)
theorem wf_X6_202 : Cond.fieldLink RX6 202 "NewCoins$Till" "expected" "LNewCoins$Expected;" ∈ nT := nT_in (i := 142) (by decide +kernel) (by decide +kernel)
theorem wf_X5_28 : Cond.fieldLink RX5 28 "NewCoins$Till" "sales" "I" ∈ nT := nT_in (i := 143) (by decide +kernel) (by decide +kernel)
theorem wf_X4_83 : Cond.fieldLink RX4 83 "NewCoins$Till" "sales" "I" ∈ nT := nT_in (i := 144) (by decide +kernel) (by decide +kernel)
theorem wf_X6_180 : Cond.fieldLink RX6 180 "NewCoins$Till" "sales" "I" ∈ nT := nT_in (i := 145) (by decide +kernel) (by decide +kernel)
theorem wf_X5_32 : Cond.fieldLink RX5 32 "NewCoins$Till" "scraps" "J" ∈ nT := nT_in (i := 146) (by decide +kernel) (by decide +kernel)
theorem wf_X6_188 : Cond.fieldLink RX6 188 "NewCoins$Till" "scraps" "J" ∈ nT := nT_in (i := 147) (by decide +kernel) (by decide +kernel)
theorem wf_X5_36 : Cond.fieldLink RX5 36 "NewCoins$Till" "takings" "J" ∈ nT := nT_in (i := 148) (by decide +kernel) (by decide +kernel)
theorem wf_X6_199 : Cond.fieldLink RX6 199 "NewCoins$Till" "takings" "J" ∈ nT := nT_in (i := 149) (by decide +kernel) (by decide +kernel)
theorem wy_X5_old : Cond.laysFinal "NewCoins$Till" "NewCoins$Till" "old" "[I" ∈ nT := nT_in (i := 150) (by decide +kernel) (by decide +kernel)
theorem wy_X5_fresh : Cond.laysFinal "NewCoins$Till" "NewCoins$Till" "fresh" "[I" ∈ nT := nT_in (i := 152) (by decide +kernel) (by decide +kernel)
theorem wy_X5_latest : Cond.laysFinal "NewCoins$Till" "NewCoins$Till" "latest" "[I" ∈ nT := nT_in (i := 154) (by decide +kernel) (by decide +kernel)
theorem wy_X5_expected : Cond.laysFinal "NewCoins$Till" "NewCoins$Till" "expected" "LNewCoins$Expected;" ∈ nT := nT_in (i := 156) (by decide +kernel) (by decide +kernel)
theorem wy_X5_sales : Cond.lays "NewCoins$Till" "NewCoins$Till" "sales" "I" ∈ nT := nT_in (i := 158) (by decide +kernel) (by decide +kernel)
theorem wy_X5_scraps : Cond.lays "NewCoins$Till" "NewCoins$Till" "scraps" "J" ∈ nT := nT_in (i := 160) (by decide +kernel) (by decide +kernel)
theorem wy_X5_takings : Cond.lays "NewCoins$Till" "NewCoins$Till" "takings" "J" ∈ nT := nT_in (i := 162) (by decide +kernel) (by decide +kernel)
theorem wf_X4_12 : Cond.fieldLink RX4 12 "NewCoins$Land" "old" "LNewCoins$Coinage;" ∈ nT := nT_in (i := 165) (by decide +kernel) (by decide +kernel)
theorem wf_X4_18 : Cond.fieldLink RX4 18 "NewCoins$Land" "fresh" "LNewCoins$Coinage;" ∈ nT := nT_in (i := 166) (by decide +kernel) (by decide +kernel)
theorem wf_X6_163 : Cond.fieldLink RX6 163 "NewCoins$Land" "fresh" "LNewCoins$Coinage;" ∈ nT := nT_in (i := 167) (by decide +kernel) (by decide +kernel)
theorem wf_X4_24 : Cond.fieldLink RX4 24 "NewCoins$Land" "goods" "LNewCoins$Goods;" ∈ nT := nT_in (i := 168) (by decide +kernel) (by decide +kernel)
theorem wf_X6_64 : Cond.fieldLink RX6 64 "NewCoins$Land" "goods" "LNewCoins$Goods;" ∈ nT := nT_in (i := 169) (by decide +kernel) (by decide +kernel)
theorem wf_X4_30 : Cond.fieldLink RX4 30 "NewCoins$Land" "tills" "[LNewCoins$Till;" ∈ nT := nT_in (i := 170) (by decide +kernel) (by decide +kernel)
theorem wf_X4_34 : Cond.fieldLink RX4 34 "NewCoins$Land" "drawnIn" "[I" ∈ nT := nT_in (i := 171) (by decide +kernel) (by decide +kernel)
theorem wf_X6_209 : Cond.fieldLink RX6 209 "NewCoins$Land" "drawnIn" "[I" ∈ nT := nT_in (i := 172) (by decide +kernel) (by decide +kernel)
theorem wf_X4_38 : Cond.fieldLink RX4 38 "NewCoins$Land" "tillCount" "I" ∈ nT := nT_in (i := 173) (by decide +kernel) (by decide +kernel)
theorem wf_X6_134 : Cond.fieldLink RX6 134 "NewCoins$Land" "tillCount" "I" ∈ nT := nT_in (i := 174) (by decide +kernel) (by decide +kernel)
theorem wf_X4_42 : Cond.fieldLink RX4 42 "NewCoins$Land" "a" "I" ∈ nT := nT_in (i := 175) (by decide +kernel) (by decide +kernel)
theorem wf_X6_57 : Cond.fieldLink RX6 57 "NewCoins$Land" "a" "I" ∈ nT := nT_in (i := 176) (by decide +kernel) (by decide +kernel)
theorem wf_X4_45 : Cond.fieldLink RX4 45 "NewCoins$Land" "b" "I" ∈ nT := nT_in (i := 177) (by decide +kernel) (by decide +kernel)
theorem wf_X6_61 : Cond.fieldLink RX6 61 "NewCoins$Land" "b" "I" ∈ nT := nT_in (i := 178) (by decide +kernel) (by decide +kernel)
theorem wf_X4_48 : Cond.fieldLink RX4 48 "NewCoins$Land" "step" "I" ∈ nT := nT_in (i := 179) (by decide +kernel) (by decide +kernel)
theorem wf_X6_80 : Cond.fieldLink RX6 80 "NewCoins$Land" "step" "I" ∈ nT := nT_in (i := 180) (by decide +kernel) (by decide +kernel)
theorem wy_X4_old : Cond.laysFinal "NewCoins$Land" "NewCoins$Land" "old" "LNewCoins$Coinage;" ∈ nT := nT_in (i := 181) (by decide +kernel) (by decide +kernel)
theorem wy_X4_fresh : Cond.laysFinal "NewCoins$Land" "NewCoins$Land" "fresh" "LNewCoins$Coinage;" ∈ nT := nT_in (i := 183) (by decide +kernel) (by decide +kernel)
theorem wy_X4_goods : Cond.laysFinal "NewCoins$Land" "NewCoins$Land" "goods" "LNewCoins$Goods;" ∈ nT := nT_in (i := 185) (by decide +kernel) (by decide +kernel)
theorem wy_X4_tills : Cond.laysFinal "NewCoins$Land" "NewCoins$Land" "tills" "[LNewCoins$Till;" ∈ nT := nT_in (i := 187) (by decide +kernel) (by decide +kernel)
theorem wy_X4_drawnIn : Cond.laysFinal "NewCoins$Land" "NewCoins$Land" "drawnIn" "[I" ∈ nT := nT_in (i := 189) (by decide +kernel) (by decide +kernel)
theorem wy_X4_tillCount : Cond.lays "NewCoins$Land" "NewCoins$Land" "tillCount" "I" ∈ nT := nT_in (i := 191) (by decide +kernel) (by decide +kernel)
theorem wy_X4_a : Cond.lays "NewCoins$Land" "NewCoins$Land" "a" "I" ∈ nT := nT_in (i := 193) (by decide +kernel) (by decide +kernel)
theorem wy_X4_b : Cond.lays "NewCoins$Land" "NewCoins$Land" "b" "I" ∈ nT := nT_in (i := 195) (by decide +kernel) (by decide +kernel)
theorem wy_X4_step : Cond.lays "NewCoins$Land" "NewCoins$Land" "step" "I" ∈ nT := nT_in (i := 197) (by decide +kernel) (by decide +kernel)
theorem wq_X6_24 : Cond.classLink RX6 24 RX0 ∈ nT := nT_in (i := 201) (by decide +kernel) (by decide +kernel)
theorem wo_X0 : Cond.instantiable RX0 4 ∈ nT := nT_in (i := 202) (by decide +kernel) (by decide +kernel)
theorem wi_X0_init : Cond.instanceMethod yX0_init ∈ nT := nT_in (i := 204) (by decide +kernel) (by decide +kernel)
set_option maxRecDepth 100000 in
theorem wc_X0_init : Cond.code yX0_init cX0_init 1 (none : Option Jvm.ClassFile.FieldType) ∈ nT := nT_in (i := 205) rfl (by decide +kernel)
theorem wl_X0_3 : Cond.methodLink RX0 3 objectInit ∈ nT := nT_in (i := 206) (by decide +kernel) (by decide +kernel)
theorem wq_X0_15 : Cond.classLink RX0 15 "[[I" ∈ nT := nT_in (i := 207) (by decide +kernel) (by decide +kernel)
theorem wf_X0_9 : Cond.fieldLink RX0 9 "NewCoins$ChangeMaker" "row" "[I" ∈ nT := nT_in (i := 209) (by decide +kernel) (by decide +kernel)
theorem wf_X6_173 : Cond.fieldLink RX6 173 "NewCoins$ChangeMaker" "row" "[I" ∈ nT := nT_in (i := 210) (by decide +kernel) (by decide +kernel)
theorem wf_X0_17 : Cond.fieldLink RX0 17 "NewCoins$ChangeMaker" "least" "[[I" ∈ nT := nT_in (i := 211) (by decide +kernel) (by decide +kernel)
theorem wf_X0_20 : Cond.fieldLink RX0 20 "NewCoins$ChangeMaker" "places" "[I" ∈ nT := nT_in (i := 212) (by decide +kernel) (by decide +kernel)
theorem wf_X0_23 : Cond.fieldLink RX0 23 "NewCoins$ChangeMaker" "costs" "[I" ∈ nT := nT_in (i := 213) (by decide +kernel) (by decide +kernel)
theorem wy_X0_row : Cond.laysFinal "NewCoins$ChangeMaker" "NewCoins$ChangeMaker" "row" "[I" ∈ nT := nT_in (i := 214) (by decide +kernel) (by decide +kernel)
theorem wy_X0_least : Cond.laysFinal "NewCoins$ChangeMaker" "NewCoins$ChangeMaker" "least" "[[I" ∈ nT := nT_in (i := 216) (by decide +kernel) (by decide +kernel)
theorem wy_X0_places : Cond.laysFinal "NewCoins$ChangeMaker" "NewCoins$ChangeMaker" "places" "[I" ∈ nT := nT_in (i := 218) (by decide +kernel) (by decide +kernel)
theorem wy_X0_costs : Cond.laysFinal "NewCoins$ChangeMaker" "NewCoins$ChangeMaker" "costs" "[I" ∈ nT := nT_in (i := 220) (by decide +kernel) (by decide +kernel)
theorem wa_boolean : Cond.arrayClass .boolean ∈ nT := nT_in (i := 223) (by decide +kernel) (by decide +kernel)
theorem wf_X6_10 : Cond.fieldLink RX6 10 "NewCoins" "now" "LNewCoins$Land;" ∈ nT := nT_in (i := 224) (by decide +kernel) (by decide +kernel)
theorem wf_X6_16 : Cond.fieldLink RX6 16 "NewCoins" "images" "[LNewCoins$Land;" ∈ nT := nT_in (i := 225) (by decide +kernel) (by decide +kernel)
theorem wf_X6_20 : Cond.fieldLink RX6 20 "NewCoins" "taken" "[Z" ∈ nT := nT_in (i := 226) (by decide +kernel) (by decide +kernel)
theorem wf_X6_27 : Cond.fieldLink RX6 27 "NewCoins" "maker" "LNewCoins$ChangeMaker;" ∈ nT := nT_in (i := 227) (by decide +kernel) (by decide +kernel)
theorem wf_X6_31 : Cond.fieldLink RX6 31 "NewCoins" "fewestRow" "[I" ∈ nT := nT_in (i := 228) (by decide +kernel) (by decide +kernel)
theorem wf_X6_35 : Cond.fieldLink RX6 35 "NewCoins" "turns" "[J" ∈ nT := nT_in (i := 229) (by decide +kernel) (by decide +kernel)
theorem wy_X6_now : Cond.laysFinal "NewCoins" "NewCoins" "now" "LNewCoins$Land;" ∈ nT := nT_in (i := 230) (by decide +kernel) (by decide +kernel)
theorem wy_X6_images : Cond.laysFinal "NewCoins" "NewCoins" "images" "[LNewCoins$Land;" ∈ nT := nT_in (i := 232) (by decide +kernel) (by decide +kernel)
theorem wy_X6_taken : Cond.laysFinal "NewCoins" "NewCoins" "taken" "[Z" ∈ nT := nT_in (i := 234) (by decide +kernel) (by decide +kernel)
theorem wy_X6_maker : Cond.laysFinal "NewCoins" "NewCoins" "maker" "LNewCoins$ChangeMaker;" ∈ nT := nT_in (i := 236) (by decide +kernel) (by decide +kernel)
theorem wy_X6_fewestRow : Cond.laysFinal "NewCoins" "NewCoins" "fewestRow" "[I" ∈ nT := nT_in (i := 238) (by decide +kernel) (by decide +kernel)
theorem wy_X6_turns : Cond.laysFinal "NewCoins" "NewCoins" "turns" "[J" ∈ nT := nT_in (i := 240) (by decide +kernel) (by decide +kernel)
theorem wa_long : Cond.arrayClass .long ∈ nT := nT_in (i := 243) (by decide +kernel) (by decide +kernel)
theorem wl_L_13 : Cond.methodLink RL 13 yX6_coin ∈ nT := nT_in (i := 244) (by decide +kernel) (by decide +kernel)
theorem wi_X6_coin : Cond.instanceMethod yX6_coin ∈ nT := nT_in (i := 245) (by decide +kernel) (by decide +kernel)
theorem ws_X6_coin : Cond.selects RX6 yX6_coin yX6_coin ∈ nT := nT_in (i := 246) (by decide +kernel) (by decide +kernel)
set_option maxRecDepth 100000 in
theorem wc_X6_coin : Cond.code yX6_coin cX6_coin 4 (some .int) ∈ nT := nT_in (i := 247) rfl (by decide +kernel)
theorem wl_X6_39 : Cond.methodLink RX6 39 yX4_coinageOf ∈ nT := nT_in (i := 248) (by decide +kernel) (by decide +kernel)
theorem wi_X4_coinageOf : Cond.instanceMethod yX4_coinageOf ∈ nT := nT_in (i := 249) (by decide +kernel) (by decide +kernel)
theorem ws_X4_coinageOf : Cond.selects RX4 yX4_coinageOf yX4_coinageOf ∈ nT := nT_in (i := 250) (by decide +kernel) (by decide +kernel)
set_option maxRecDepth 100000 in
theorem wc_X4_coinageOf : Cond.code yX4_coinageOf cX4_coinageOf 2 (some (.object "NewCoins$Coinage")) ∈ nT := nT_in (i := 251) rfl (by decide +kernel)
theorem wl_X6_43 : Cond.methodLink RX6 43 yX1_add ∈ nT := nT_in (i := 252) (by decide +kernel) (by decide +kernel)
theorem wi_X1_add : Cond.instanceMethod yX1_add ∈ nT := nT_in (i := 253) (by decide +kernel) (by decide +kernel)
theorem ws_X1_add : Cond.selects RX1 yX1_add yX1_add ∈ nT := nT_in (i := 254) (by decide +kernel) (by decide +kernel)
set_option maxRecDepth 100000 in
theorem wc_X1_add : Cond.code yX1_add cX1_add 2 (some .int) ∈ nT := nT_in (i := 255) rfl (by decide +kernel)
theorem wt_X6_within : Cond.static yX6_within ∈ nT := nT_in (i := 257) (by decide +kernel) (by decide +kernel)
set_option maxRecDepth 100000 in
theorem wc_X6_within : Cond.code yX6_within cX6_within 3 (some .boolean) ∈ nT := nT_in (i := 258) rfl (by decide +kernel)
theorem wl_X1_41 : Cond.methodLink RX1 41 yX1_isValue ∈ nT := nT_in (i := 259) (by decide +kernel) (by decide +kernel)
theorem wi_X1_isValue : Cond.instanceMethod yX1_isValue ∈ nT := nT_in (i := 261) (by decide +kernel) (by decide +kernel)
set_option maxRecDepth 100000 in
theorem wc_X1_isValue : Cond.code yX1_isValue cX1_isValue 3 (some .boolean) ∈ nT := nT_in (i := 262) rfl (by decide +kernel)
theorem wl_X1_45 : Cond.methodLink RX1 45 yX1_rank ∈ nT := nT_in (i := 263) (by decide +kernel) (by decide +kernel)
theorem wi_X1_rank : Cond.instanceMethod yX1_rank ∈ nT := nT_in (i := 265) (by decide +kernel) (by decide +kernel)
set_option maxRecDepth 100000 in
theorem wc_X1_rank : Cond.code yX1_rank cX1_rank 3 (none : Option Jvm.ClassFile.FieldType) ∈ nT := nT_in (i := 266) rfl (by decide +kernel)
theorem wl_X1_49 : Cond.methodLink RX1 49 yX1_improve ∈ nT := nT_in (i := 267) (by decide +kernel) (by decide +kernel)
theorem wi_X1_improve : Cond.instanceMethod yX1_improve ∈ nT := nT_in (i := 269) (by decide +kernel) (by decide +kernel)
set_option maxRecDepth 100000 in
theorem wc_X1_improve : Cond.code yX1_improve cX1_improve 4 (none : Option Jvm.ClassFile.FieldType) ∈ nT := nT_in (i := 270) rfl (by decide +kernel)
theorem wl_L_18 : Cond.methodLink RL 18 yX6_rate ∈ nT := nT_in (i := 271) (by decide +kernel) (by decide +kernel)
theorem wi_X6_rate : Cond.instanceMethod yX6_rate ∈ nT := nT_in (i := 272) (by decide +kernel) (by decide +kernel)
theorem ws_X6_rate : Cond.selects RX6 yX6_rate yX6_rate ∈ nT := nT_in (i := 273) (by decide +kernel) (by decide +kernel)
set_option maxRecDepth 100000 in
theorem wc_X6_rate : Cond.code yX6_rate cX6_rate 3 (some .boolean) ∈ nT := nT_in (i := 274) rfl (by decide +kernel)
theorem wl_X6_49 : Cond.methodLink RX6 49 yX6_within ∈ nT := nT_in (i := 275) (by decide +kernel) (by decide +kernel)
theorem wl_X6_53 : Cond.methodLink RX6 53 yX4_hasSold ∈ nT := nT_in (i := 276) (by decide +kernel) (by decide +kernel)
theorem wi_X4_hasSold : Cond.instanceMethod yX4_hasSold ∈ nT := nT_in (i := 277) (by decide +kernel) (by decide +kernel)
theorem ws_X4_hasSold : Cond.selects RX4 yX4_hasSold yX4_hasSold ∈ nT := nT_in (i := 278) (by decide +kernel) (by decide +kernel)
set_option maxRecDepth 100000 in
theorem wc_X4_hasSold : Cond.code yX4_hasSold cX4_hasSold 2 (some .boolean) ∈ nT := nT_in (i := 279) rfl (by decide +kernel)
theorem wl_L_23 : Cond.methodLink RL 23 yX6_good ∈ nT := nT_in (i := 280) (by decide +kernel) (by decide +kernel)
theorem wi_X6_good : Cond.instanceMethod yX6_good ∈ nT := nT_in (i := 281) (by decide +kernel) (by decide +kernel)
theorem ws_X6_good : Cond.selects RX6 yX6_good yX6_good ∈ nT := nT_in (i := 282) (by decide +kernel) (by decide +kernel)
set_option maxRecDepth 100000 in
theorem wc_X6_good : Cond.code yX6_good cX6_good 3 (some .int) ∈ nT := nT_in (i := 283) rfl (by decide +kernel)
theorem wl_X6_68 : Cond.methodLink RX6 68 yX3_add ∈ nT := nT_in (i := 284) (by decide +kernel) (by decide +kernel)
theorem wi_X3_add : Cond.instanceMethod yX3_add ∈ nT := nT_in (i := 285) (by decide +kernel) (by decide +kernel)
theorem ws_X3_add : Cond.selects RX3 yX3_add yX3_add ∈ nT := nT_in (i := 286) (by decide +kernel) (by decide +kernel)
set_option maxRecDepth 100000 in
theorem wc_X3_add : Cond.code yX3_add cX3_add 3 (some .int) ∈ nT := nT_in (i := 287) rfl (by decide +kernel)
theorem wl_L_27 : Cond.methodLink RL 27 yX6_sold ∈ nT := nT_in (i := 289) (by decide +kernel) (by decide +kernel)
theorem wi_X6_sold : Cond.instanceMethod yX6_sold ∈ nT := nT_in (i := 290) (by decide +kernel) (by decide +kernel)
theorem ws_X6_sold : Cond.selects RX6 yX6_sold yX6_sold ∈ nT := nT_in (i := 291) (by decide +kernel) (by decide +kernel)
set_option maxRecDepth 100000 in
theorem wc_X6_sold : Cond.code yX6_sold cX6_sold 3 (some .boolean) ∈ nT := nT_in (i := 292) rfl (by decide +kernel)
theorem wl_X6_73 : Cond.methodLink RX6 73 yX3_isGood ∈ nT := nT_in (i := 293) (by decide +kernel) (by decide +kernel)
theorem wi_X3_isGood : Cond.instanceMethod yX3_isGood ∈ nT := nT_in (i := 294) (by decide +kernel) (by decide +kernel)
theorem ws_X3_isGood : Cond.selects RX3 yX3_isGood yX3_isGood ∈ nT := nT_in (i := 295) (by decide +kernel) (by decide +kernel)
set_option maxRecDepth 100000 in
theorem wc_X3_isGood : Cond.code yX3_isGood cX3_isGood 2 (some .boolean) ∈ nT := nT_in (i := 296) rfl (by decide +kernel)
theorem wl_L_31 : Cond.methodLink RL 31 yX6_step ∈ nT := nT_in (i := 297) (by decide +kernel) (by decide +kernel)
theorem wi_X6_step : Cond.instanceMethod yX6_step ∈ nT := nT_in (i := 298) (by decide +kernel) (by decide +kernel)
theorem ws_X6_step : Cond.selects RX6 yX6_step yX6_step ∈ nT := nT_in (i := 299) (by decide +kernel) (by decide +kernel)
set_option maxRecDepth 100000 in
theorem wc_X6_step : Cond.code yX6_step cX6_step 2 (some .boolean) ∈ nT := nT_in (i := 300) rfl (by decide +kernel)
theorem wl_L_36 : Cond.methodLink RL 36 yX6_price ∈ nT := nT_in (i := 301) (by decide +kernel) (by decide +kernel)
theorem wi_X6_price : Cond.instanceMethod yX6_price ∈ nT := nT_in (i := 302) (by decide +kernel) (by decide +kernel)
theorem ws_X6_price : Cond.selects RX6 yX6_price yX6_price ∈ nT := nT_in (i := 303) (by decide +kernel) (by decide +kernel)
set_option maxRecDepth 100000 in
theorem wc_X6_price : Cond.code yX6_price cX6_price 3 (some .int) ∈ nT := nT_in (i := 304) rfl (by decide +kernel)
theorem wl_X6_83 : Cond.methodLink RX6 83 yX6_isRule ∈ nT := nT_in (i := 305) (by decide +kernel) (by decide +kernel)
theorem wt_X6_isRule : Cond.static yX6_isRule ∈ nT := nT_in (i := 306) (by decide +kernel) (by decide +kernel)
set_option maxRecDepth 100000 in
theorem wc_X6_isRule : Cond.code yX6_isRule cX6_isRule 1 (some .boolean) ∈ nT := nT_in (i := 307) rfl (by decide +kernel)
theorem wl_X6_86 : Cond.methodLink RX6 86 yX4_newPrice ∈ nT := nT_in (i := 308) (by decide +kernel) (by decide +kernel)
theorem wi_X4_newPrice : Cond.instanceMethod yX4_newPrice ∈ nT := nT_in (i := 309) (by decide +kernel) (by decide +kernel)
theorem ws_X4_newPrice : Cond.selects RX4 yX4_newPrice yX4_newPrice ∈ nT := nT_in (i := 310) (by decide +kernel) (by decide +kernel)
set_option maxRecDepth 100000 in
theorem wc_X4_newPrice : Cond.code yX4_newPrice cX4_newPrice 7 (some .int) ∈ nT := nT_in (i := 311) rfl (by decide +kernel)
theorem wt_X6_wholeTimes : Cond.static yX6_wholeTimes ∈ nT := nT_in (i := 313) (by decide +kernel) (by decide +kernel)
set_option maxRecDepth 100000 in
theorem wc_X6_wholeTimes : Cond.code yX6_wholeTimes cX6_wholeTimes 2 (some .int) ∈ nT := nT_in (i := 314) rfl (by decide +kernel)
theorem wl_X4_103 : Cond.methodLink RX4 103 yX4_roundsUp ∈ nT := nT_in (i := 315) (by decide +kernel) (by decide +kernel)
theorem wt_X4_roundsUp : Cond.static yX4_roundsUp ∈ nT := nT_in (i := 316) (by decide +kernel) (by decide +kernel)
set_option maxRecDepth 100000 in
theorem wc_X4_roundsUp : Cond.code yX4_roundsUp cX4_roundsUp 4 (some .boolean) ∈ nT := nT_in (i := 317) rfl (by decide +kernel)
theorem wl_L_40 : Cond.methodLink RL 40 yX6_gain ∈ nT := nT_in (i := 318) (by decide +kernel) (by decide +kernel)
theorem wi_X6_gain : Cond.instanceMethod yX6_gain ∈ nT := nT_in (i := 319) (by decide +kernel) (by decide +kernel)
theorem ws_X6_gain : Cond.selects RX6 yX6_gain yX6_gain ∈ nT := nT_in (i := 320) (by decide +kernel) (by decide +kernel)
set_option maxRecDepth 100000 in
theorem wc_X6_gain : Cond.code yX6_gain cX6_gain 5 (some .long) ∈ nT := nT_in (i := 321) rfl (by decide +kernel)
theorem wl_X6_92 : Cond.methodLink RX6 92 yX4_gainOf ∈ nT := nT_in (i := 322) (by decide +kernel) (by decide +kernel)
theorem wi_X4_gainOf : Cond.instanceMethod yX4_gainOf ∈ nT := nT_in (i := 323) (by decide +kernel) (by decide +kernel)
theorem ws_X4_gainOf : Cond.selects RX4 yX4_gainOf yX4_gainOf ∈ nT := nT_in (i := 324) (by decide +kernel) (by decide +kernel)
set_option maxRecDepth 100000 in
theorem wc_X4_gainOf : Cond.code yX4_gainOf cX4_gainOf 5 (some .long) ∈ nT := nT_in (i := 325) rfl (by decide +kernel)
theorem wl_X4_107 : Cond.methodLink RX4 107 yX4_newPrice ∈ nT := nT_in (i := 326) (by decide +kernel) (by decide +kernel)
theorem wl_L_45 : Cond.methodLink RL 45 yX6_fairest ∈ nT := nT_in (i := 327) (by decide +kernel) (by decide +kernel)
theorem wi_X6_fairest : Cond.instanceMethod yX6_fairest ∈ nT := nT_in (i := 328) (by decide +kernel) (by decide +kernel)
theorem ws_X6_fairest : Cond.selects RX6 yX6_fairest yX6_fairest ∈ nT := nT_in (i := 329) (by decide +kernel) (by decide +kernel)
set_option maxRecDepth 100000 in
theorem wc_X6_fairest : Cond.code yX6_fairest cX6_fairest 9 (some .int) ∈ nT := nT_in (i := 330) rfl (by decide +kernel)
theorem wl_X6_96 : Cond.methodLink RX6 96 yX6_startOfWays ∈ nT := nT_in (i := 331) (by decide +kernel) (by decide +kernel)
theorem wi_X6_startOfWays : Cond.instanceMethod yX6_startOfWays ∈ nT := nT_in (i := 333) (by decide +kernel) (by decide +kernel)
set_option maxRecDepth 100000 in
theorem wc_X6_startOfWays : Cond.code yX6_startOfWays cX6_startOfWays 10 (some .long) ∈ nT := nT_in (i := 334) rfl (by decide +kernel)
theorem wl_X6_100 : Cond.methodLink RX6 100 yJ9_abs_067f4 ∈ nT := nT_in (i := 335) (by decide +kernel) (by decide +kernel)
theorem wt_J9_abs_067f4 : Cond.static yJ9_abs_067f4 ∈ nT := nT_in (i := 336) (by decide +kernel) (by decide +kernel)
set_option maxRecDepth 100000 in
theorem wc_J9_abs_067f4 : Cond.code yJ9_abs_067f4 cJ9_abs_067f4 2 (some .long) ∈ nT := nT_in (i := 337) rfl (by decide +kernel)
theorem wl_X6_106 : Cond.methodLink RX6 106 yJ6_bitCount_0f7a4 ∈ nT := nT_in (i := 338) (by decide +kernel) (by decide +kernel)
theorem wt_J6_bitCount_0f7a4 : Cond.static yJ6_bitCount_0f7a4 ∈ nT := nT_in (i := 339) (by decide +kernel) (by decide +kernel)
set_option maxRecDepth 100000 in
theorem wc_J6_bitCount_0f7a4 : Cond.code yJ6_bitCount_0f7a4 cJ6_bitCount_0f7a4 1 (some .int) ∈ nT := nT_in (i := 340) rfl (by decide +kernel)
theorem wk_J6_265 : Cond.constant RJ6 265 (1431655765) ∈ nT := nT_in (i := 341) (by decide +kernel) (by decide +kernel)
theorem wk_J6_266 : Cond.constant RJ6 266 (858993459) ∈ nT := nT_in (i := 342) (by decide +kernel) (by decide +kernel)
theorem wk_J6_267 : Cond.constant RJ6 267 (252645135) ∈ nT := nT_in (i := 343) (by decide +kernel) (by decide +kernel)
theorem wl_L_50 : Cond.methodLink RL 50 yX6_gains ∈ nT := nT_in (i := 344) (by decide +kernel) (by decide +kernel)
theorem wi_X6_gains : Cond.instanceMethod yX6_gains ∈ nT := nT_in (i := 345) (by decide +kernel) (by decide +kernel)
theorem ws_X6_gains : Cond.selects RX6 yX6_gains yX6_gains ∈ nT := nT_in (i := 346) (by decide +kernel) (by decide +kernel)
set_option maxRecDepth 100000 in
theorem wc_X6_gains : Cond.code yX6_gains cX6_gains 6 (some .long) ∈ nT := nT_in (i := 347) rfl (by decide +kernel)
theorem wl_L_54 : Cond.methodLink RL 54 yX6_fewest ∈ nT := nT_in (i := 348) (by decide +kernel) (by decide +kernel)
theorem wi_X6_fewest : Cond.instanceMethod yX6_fewest ∈ nT := nT_in (i := 349) (by decide +kernel) (by decide +kernel)
theorem ws_X6_fewest : Cond.selects RX6 yX6_fewest yX6_fewest ∈ nT := nT_in (i := 350) (by decide +kernel) (by decide +kernel)
set_option maxRecDepth 100000 in
theorem wc_X6_fewest : Cond.code yX6_fewest cX6_fewest 5 (some .int) ∈ nT := nT_in (i := 351) rfl (by decide +kernel)
theorem wl_X6_111 : Cond.methodLink RX6 111 yX1_hasFewest ∈ nT := nT_in (i := 352) (by decide +kernel) (by decide +kernel)
theorem wi_X1_hasFewest : Cond.instanceMethod yX1_hasFewest ∈ nT := nT_in (i := 353) (by decide +kernel) (by decide +kernel)
theorem ws_X1_hasFewest : Cond.selects RX1 yX1_hasFewest yX1_hasFewest ∈ nT := nT_in (i := 354) (by decide +kernel) (by decide +kernel)
set_option maxRecDepth 100000 in
theorem wc_X1_hasFewest : Cond.code yX1_hasFewest cX1_hasFewest 2 (some .boolean) ∈ nT := nT_in (i := 355) rfl (by decide +kernel)
theorem wt_X6_isSum : Cond.static yX6_isSum ∈ nT := nT_in (i := 357) (by decide +kernel) (by decide +kernel)
set_option maxRecDepth 100000 in
theorem wc_X6_isSum : Cond.code yX6_isSum cX6_isSum 1 (some .boolean) ∈ nT := nT_in (i := 358) rfl (by decide +kernel)
theorem wl_X6_117 : Cond.methodLink RX6 117 yX1_isCoin ∈ nT := nT_in (i := 359) (by decide +kernel) (by decide +kernel)
theorem wi_X1_isCoin : Cond.instanceMethod yX1_isCoin ∈ nT := nT_in (i := 360) (by decide +kernel) (by decide +kernel)
theorem ws_X1_isCoin : Cond.selects RX1 yX1_isCoin yX1_isCoin ∈ nT := nT_in (i := 361) (by decide +kernel) (by decide +kernel)
set_option maxRecDepth 100000 in
theorem wc_X1_isCoin : Cond.code yX1_isCoin cX1_isCoin 2 (some .boolean) ∈ nT := nT_in (i := 362) rfl (by decide +kernel)
theorem wl_X6_120 : Cond.methodLink RX6 120 yX1_writeFewest ∈ nT := nT_in (i := 363) (by decide +kernel) (by decide +kernel)
theorem wi_X1_writeFewest : Cond.instanceMethod yX1_writeFewest ∈ nT := nT_in (i := 364) (by decide +kernel) (by decide +kernel)
theorem ws_X1_writeFewest : Cond.selects RX1 yX1_writeFewest yX1_writeFewest ∈ nT := nT_in (i := 365) (by decide +kernel) (by decide +kernel)
set_option maxRecDepth 100000 in
theorem wc_X1_writeFewest : Cond.code yX1_writeFewest cX1_writeFewest 8 (none : Option Jvm.ClassFile.FieldType) ∈ nT := nT_in (i := 366) rfl (by decide +kernel)
theorem wl_L_59 : Cond.methodLink RL 59 yX6_greedy ∈ nT := nT_in (i := 368) (by decide +kernel) (by decide +kernel)
theorem wi_X6_greedy : Cond.instanceMethod yX6_greedy ∈ nT := nT_in (i := 369) (by decide +kernel) (by decide +kernel)
theorem ws_X6_greedy : Cond.selects RX6 yX6_greedy yX6_greedy ∈ nT := nT_in (i := 370) (by decide +kernel) (by decide +kernel)
set_option maxRecDepth 100000 in
theorem wc_X6_greedy : Cond.code yX6_greedy cX6_greedy 4 (some .int) ∈ nT := nT_in (i := 371) rfl (by decide +kernel)
theorem wl_X6_124 : Cond.methodLink RX6 124 yX6_isSum ∈ nT := nT_in (i := 372) (by decide +kernel) (by decide +kernel)
theorem wl_X6_127 : Cond.methodLink RX6 127 yX1_countGreedily ∈ nT := nT_in (i := 373) (by decide +kernel) (by decide +kernel)
theorem wi_X1_countGreedily : Cond.instanceMethod yX1_countGreedily ∈ nT := nT_in (i := 374) (by decide +kernel) (by decide +kernel)
theorem ws_X1_countGreedily : Cond.selects RX1 yX1_countGreedily yX1_countGreedily ∈ nT := nT_in (i := 375) (by decide +kernel) (by decide +kernel)
set_option maxRecDepth 100000 in
theorem wc_X1_countGreedily : Cond.code yX1_countGreedily cX1_countGreedily 7 (some .int) ∈ nT := nT_in (i := 376) rfl (by decide +kernel)
theorem wl_L_63 : Cond.methodLink RL 63 yX6_odd ∈ nT := nT_in (i := 377) (by decide +kernel) (by decide +kernel)
theorem wi_X6_odd : Cond.instanceMethod yX6_odd ∈ nT := nT_in (i := 378) (by decide +kernel) (by decide +kernel)
theorem ws_X6_odd : Cond.selects RX6 yX6_odd yX6_odd ∈ nT := nT_in (i := 379) (by decide +kernel) (by decide +kernel)
set_option maxRecDepth 100000 in
theorem wc_X6_odd : Cond.code yX6_odd cX6_odd 3 (some .int) ∈ nT := nT_in (i := 380) rfl (by decide +kernel)
theorem wl_X6_130 : Cond.methodLink RX6 130 yX1_leastOdd ∈ nT := nT_in (i := 381) (by decide +kernel) (by decide +kernel)
theorem wi_X1_leastOdd : Cond.instanceMethod yX1_leastOdd ∈ nT := nT_in (i := 382) (by decide +kernel) (by decide +kernel)
theorem ws_X1_leastOdd : Cond.selects RX1 yX1_leastOdd yX1_leastOdd ∈ nT := nT_in (i := 383) (by decide +kernel) (by decide +kernel)
set_option maxRecDepth 100000 in
theorem wc_X1_leastOdd : Cond.code yX1_leastOdd cX1_leastOdd 2 (some .int) ∈ nT := nT_in (i := 384) rfl (by decide +kernel)
theorem wl_X1_59 : Cond.methodLink RX1 59 yX1_countGreedily ∈ nT := nT_in (i := 385) (by decide +kernel) (by decide +kernel)
theorem wl_L_68 : Cond.methodLink RL 68 yX6_till ∈ nT := nT_in (i := 386) (by decide +kernel) (by decide +kernel)
theorem wi_X6_till : Cond.instanceMethod yX6_till ∈ nT := nT_in (i := 387) (by decide +kernel) (by decide +kernel)
theorem ws_X6_till : Cond.selects RX6 yX6_till yX6_till ∈ nT := nT_in (i := 388) (by decide +kernel) (by decide +kernel)
set_option maxRecDepth 100000 in
theorem wc_X6_till : Cond.code yX6_till cX6_till 1 (some .int) ∈ nT := nT_in (i := 389) rfl (by decide +kernel)
theorem wl_L_72 : Cond.methodLink RL 72 yX6_put ∈ nT := nT_in (i := 390) (by decide +kernel) (by decide +kernel)
theorem wi_X6_put : Cond.instanceMethod yX6_put ∈ nT := nT_in (i := 391) (by decide +kernel) (by decide +kernel)
theorem ws_X6_put : Cond.selects RX6 yX6_put yX6_put ∈ nT := nT_in (i := 392) (by decide +kernel) (by decide +kernel)
set_option maxRecDepth 100000 in
theorem wc_X6_put : Cond.code yX6_put cX6_put 9 (some .int) ∈ nT := nT_in (i := 393) rfl (by decide +kernel)
theorem wl_X6_137 : Cond.methodLink RX6 137 yX4_tillAt ∈ nT := nT_in (i := 394) (by decide +kernel) (by decide +kernel)
theorem wi_X4_tillAt : Cond.instanceMethod yX4_tillAt ∈ nT := nT_in (i := 395) (by decide +kernel) (by decide +kernel)
theorem ws_X4_tillAt : Cond.selects RX4 yX4_tillAt yX4_tillAt ∈ nT := nT_in (i := 396) (by decide +kernel) (by decide +kernel)
set_option maxRecDepth 100000 in
theorem wc_X4_tillAt : Cond.code yX4_tillAt cX4_tillAt 2 (some (.object "NewCoins$Till")) ∈ nT := nT_in (i := 397) rfl (by decide +kernel)
theorem wl_X6_141 : Cond.methodLink RX6 141 yX4_isCoin ∈ nT := nT_in (i := 399) (by decide +kernel) (by decide +kernel)
theorem wi_X4_isCoin : Cond.instanceMethod yX4_isCoin ∈ nT := nT_in (i := 400) (by decide +kernel) (by decide +kernel)
theorem ws_X4_isCoin : Cond.selects RX4 yX4_isCoin yX4_isCoin ∈ nT := nT_in (i := 401) (by decide +kernel) (by decide +kernel)
set_option maxRecDepth 100000 in
theorem wc_X4_isCoin : Cond.code yX4_isCoin cX4_isCoin 4 (some .boolean) ∈ nT := nT_in (i := 402) rfl (by decide +kernel)
theorem wl_X4_72 : Cond.methodLink RX4 72 yX4_coinageOf ∈ nT := nT_in (i := 403) (by decide +kernel) (by decide +kernel)
theorem wl_X4_76 : Cond.methodLink RX4 76 yX1_isCoin ∈ nT := nT_in (i := 404) (by decide +kernel) (by decide +kernel)
theorem wl_X6_144 : Cond.methodLink RX6 144 yX5_countsOf ∈ nT := nT_in (i := 405) (by decide +kernel) (by decide +kernel)
theorem wi_X5_countsOf : Cond.instanceMethod yX5_countsOf ∈ nT := nT_in (i := 406) (by decide +kernel) (by decide +kernel)
theorem ws_X5_countsOf : Cond.selects RX5 yX5_countsOf yX5_countsOf ∈ nT := nT_in (i := 407) (by decide +kernel) (by decide +kernel)
set_option maxRecDepth 100000 in
theorem wc_X5_countsOf : Cond.code yX5_countsOf cX5_countsOf 2 (some (.array .int)) ∈ nT := nT_in (i := 408) rfl (by decide +kernel)
theorem wk_X6_150 : Cond.constantLong RX6 150 (1000) ∈ nT := nT_in (i := 409) (by decide +kernel) (by decide +kernel)
theorem wl_L_77 : Cond.methodLink RL 77 yX6_sale ∈ nT := nT_in (i := 410) (by decide +kernel) (by decide +kernel)
theorem wi_X6_sale : Cond.instanceMethod yX6_sale ∈ nT := nT_in (i := 411) (by decide +kernel) (by decide +kernel)
theorem ws_X6_sale : Cond.selects RX6 yX6_sale yX6_sale ∈ nT := nT_in (i := 412) (by decide +kernel) (by decide +kernel)
set_option maxRecDepth 100000 in
theorem wc_X6_sale : Cond.code yX6_sale cX6_sale 10 (some .int) ∈ nT := nT_in (i := 413) rfl (by decide +kernel)
theorem wl_X6_152 : Cond.methodLink RX6 152 yX4_isSale ∈ nT := nT_in (i := 414) (by decide +kernel) (by decide +kernel)
theorem wi_X4_isSale : Cond.instanceMethod yX4_isSale ∈ nT := nT_in (i := 415) (by decide +kernel) (by decide +kernel)
theorem ws_X4_isSale : Cond.selects RX4 yX4_isSale yX4_isSale ∈ nT := nT_in (i := 416) (by decide +kernel) (by decide +kernel)
set_option maxRecDepth 100000 in
theorem wc_X4_isSale : Cond.code yX4_isSale cX4_isSale 5 (some .boolean) ∈ nT := nT_in (i := 417) rfl (by decide +kernel)
theorem wl_X4_80 : Cond.methodLink RX4 80 yX4_isCoin ∈ nT := nT_in (i := 418) (by decide +kernel) (by decide +kernel)
theorem wl_X6_156 : Cond.methodLink RX6 156 yX4_spareParts ∈ nT := nT_in (i := 419) (by decide +kernel) (by decide +kernel)
theorem wi_X4_spareParts : Cond.instanceMethod yX4_spareParts ∈ nT := nT_in (i := 420) (by decide +kernel) (by decide +kernel)
theorem ws_X4_spareParts : Cond.selects RX4 yX4_spareParts yX4_spareParts ∈ nT := nT_in (i := 421) (by decide +kernel) (by decide +kernel)
set_option maxRecDepth 100000 in
theorem wc_X4_spareParts : Cond.code yX4_spareParts cX4_spareParts 6 (some .int) ∈ nT := nT_in (i := 422) rfl (by decide +kernel)
theorem wl_X4_89 : Cond.methodLink RX4 89 yX4_unitParts ∈ nT := nT_in (i := 423) (by decide +kernel) (by decide +kernel)
theorem wi_X4_unitParts : Cond.instanceMethod yX4_unitParts ∈ nT := nT_in (i := 424) (by decide +kernel) (by decide +kernel)
theorem ws_X4_unitParts : Cond.selects RX4 yX4_unitParts yX4_unitParts ∈ nT := nT_in (i := 425) (by decide +kernel) (by decide +kernel)
set_option maxRecDepth 100000 in
theorem wc_X4_unitParts : Cond.code yX4_unitParts cX4_unitParts 2 (some .int) ∈ nT := nT_in (i := 426) rfl (by decide +kernel)
theorem wl_X6_160 : Cond.methodLink RX6 160 yX6_wholeTimes ∈ nT := nT_in (i := 427) (by decide +kernel) (by decide +kernel)
theorem wl_X6_169 : Cond.methodLink RX6 169 yX0_make ∈ nT := nT_in (i := 428) (by decide +kernel) (by decide +kernel)
theorem wi_X0_make : Cond.instanceMethod yX0_make ∈ nT := nT_in (i := 429) (by decide +kernel) (by decide +kernel)
theorem ws_X0_make : Cond.selects RX0 yX0_make yX0_make ∈ nT := nT_in (i := 430) (by decide +kernel) (by decide +kernel)
set_option maxRecDepth 100000 in
theorem wc_X0_make : Cond.code yX0_make cX0_make 7 (some .boolean) ∈ nT := nT_in (i := 431) rfl (by decide +kernel)
theorem wl_X0_30 : Cond.methodLink RX0 30 yJ7_fill_53178 ∈ nT := nT_in (i := 433) (by decide +kernel) (by decide +kernel)
theorem wl_X0_48 : Cond.methodLink RX0 48 yX0_allow ∈ nT := nT_in (i := 434) (by decide +kernel) (by decide +kernel)
theorem wi_X0_allow : Cond.instanceMethod yX0_allow ∈ nT := nT_in (i := 436) (by decide +kernel) (by decide +kernel)
set_option maxRecDepth 100000 in
theorem wc_X0_allow : Cond.code yX0_allow cX0_allow 6 (none : Option Jvm.ClassFile.FieldType) ∈ nT := nT_in (i := 437) rfl (by decide +kernel)
theorem wl_X0_56 : Cond.methodLink RX0 56 yX0_slide ∈ nT := nT_in (i := 438) (by decide +kernel) (by decide +kernel)
theorem wi_X0_slide : Cond.instanceMethod yX0_slide ∈ nT := nT_in (i := 440) (by decide +kernel) (by decide +kernel)
set_option maxRecDepth 100000 in
theorem wc_X0_slide : Cond.code yX0_slide cX0_slide 12 (none : Option Jvm.ClassFile.FieldType) ∈ nT := nT_in (i := 441) rfl (by decide +kernel)
theorem wl_X0_52 : Cond.methodLink RX0 52 yX0_writeRow ∈ nT := nT_in (i := 442) (by decide +kernel) (by decide +kernel)
theorem wi_X0_writeRow : Cond.instanceMethod yX0_writeRow ∈ nT := nT_in (i := 444) (by decide +kernel) (by decide +kernel)
set_option maxRecDepth 100000 in
theorem wc_X0_writeRow : Cond.code yX0_writeRow cX0_writeRow 9 (none : Option Jvm.ClassFile.FieldType) ∈ nT := nT_in (i := 445) rfl (by decide +kernel)
theorem wl_X0_64 : Cond.methodLink RX0 64 yJ9_min_7cf53 ∈ nT := nT_in (i := 447) (by decide +kernel) (by decide +kernel)
theorem wt_J9_min_7cf53 : Cond.static yJ9_min_7cf53 ∈ nT := nT_in (i := 448) (by decide +kernel) (by decide +kernel)
set_option maxRecDepth 100000 in
theorem wc_J9_min_7cf53 : Cond.code yJ9_min_7cf53 cJ9_min_7cf53 2 (some .int) ∈ nT := nT_in (i := 449) rfl (by decide +kernel)
theorem wl_X0_69 : Cond.methodLink RX0 69 yX0_leadsOn ∈ nT := nT_in (i := 450) (by decide +kernel) (by decide +kernel)
theorem wi_X0_leadsOn : Cond.instanceMethod yX0_leadsOn ∈ nT := nT_in (i := 452) (by decide +kernel) (by decide +kernel)
set_option maxRecDepth 100000 in
theorem wc_X0_leadsOn : Cond.code yX0_leadsOn cX0_leadsOn 5 (some .boolean) ∈ nT := nT_in (i := 453) rfl (by decide +kernel)
theorem wl_X6_176 : Cond.methodLink RX6 176 yX5_close ∈ nT := nT_in (i := 454) (by decide +kernel) (by decide +kernel)
theorem wi_X5_close : Cond.instanceMethod yX5_close ∈ nT := nT_in (i := 455) (by decide +kernel) (by decide +kernel)
theorem ws_X5_close : Cond.selects RX5 yX5_close yX5_close ∈ nT := nT_in (i := 456) (by decide +kernel) (by decide +kernel)
set_option maxRecDepth 100000 in
theorem wc_X5_close : Cond.code yX5_close cX5_close 5 (none : Option Jvm.ClassFile.FieldType) ∈ nT := nT_in (i := 457) rfl (by decide +kernel)
theorem wl_L_82 : Cond.methodLink RL 82 yX6_given ∈ nT := nT_in (i := 458) (by decide +kernel) (by decide +kernel)
theorem wi_X6_given : Cond.instanceMethod yX6_given ∈ nT := nT_in (i := 459) (by decide +kernel) (by decide +kernel)
theorem ws_X6_given : Cond.selects RX6 yX6_given yX6_given ∈ nT := nT_in (i := 460) (by decide +kernel) (by decide +kernel)
set_option maxRecDepth 100000 in
theorem wc_X6_given : Cond.code yX6_given cX6_given 4 (some .int) ∈ nT := nT_in (i := 461) rfl (by decide +kernel)
theorem wl_L_86 : Cond.methodLink RL 86 yX6_tell ∈ nT := nT_in (i := 462) (by decide +kernel) (by decide +kernel)
theorem wi_X6_tell : Cond.instanceMethod yX6_tell ∈ nT := nT_in (i := 463) (by decide +kernel) (by decide +kernel)
theorem ws_X6_tell : Cond.selects RX6 yX6_tell yX6_tell ∈ nT := nT_in (i := 464) (by decide +kernel) (by decide +kernel)
set_option maxRecDepth 100000 in
theorem wc_X6_tell : Cond.code yX6_tell cX6_tell 4 (some .long) ∈ nT := nT_in (i := 465) rfl (by decide +kernel)
theorem wk_X6_186 : Cond.constantLong RX6 186 (-1) ∈ nT := nT_in (i := 466) (by decide +kernel) (by decide +kernel)
theorem wl_X6_195 : Cond.methodLink RX6 195 yX4_partsOf ∈ nT := nT_in (i := 467) (by decide +kernel) (by decide +kernel)
theorem wi_X4_partsOf : Cond.instanceMethod yX4_partsOf ∈ nT := nT_in (i := 468) (by decide +kernel) (by decide +kernel)
theorem ws_X4_partsOf : Cond.selects RX4 yX4_partsOf yX4_partsOf ∈ nT := nT_in (i := 469) (by decide +kernel) (by decide +kernel)
set_option maxRecDepth 100000 in
theorem wc_X4_partsOf : Cond.code yX4_partsOf cX4_partsOf 7 (some .long) ∈ nT := nT_in (i := 470) rfl (by decide +kernel)
theorem wl_L_91 : Cond.methodLink RL 91 yX6_has ∈ nT := nT_in (i := 471) (by decide +kernel) (by decide +kernel)
theorem wi_X6_has : Cond.instanceMethod yX6_has ∈ nT := nT_in (i := 472) (by decide +kernel) (by decide +kernel)
theorem ws_X6_has : Cond.selects RX6 yX6_has yX6_has ∈ nT := nT_in (i := 473) (by decide +kernel) (by decide +kernel)
set_option maxRecDepth 100000 in
theorem wc_X6_has : Cond.code yX6_has cX6_has 5 (some .int) ∈ nT := nT_in (i := 474) rfl (by decide +kernel)
theorem wl_L_95 : Cond.methodLink RL 95 yX6_draw ∈ nT := nT_in (i := 475) (by decide +kernel) (by decide +kernel)
theorem wi_X6_draw : Cond.instanceMethod yX6_draw ∈ nT := nT_in (i := 476) (by decide +kernel) (by decide +kernel)
theorem ws_X6_draw : Cond.selects RX6 yX6_draw yX6_draw ∈ nT := nT_in (i := 477) (by decide +kernel) (by decide +kernel)
set_option maxRecDepth 100000 in
theorem wc_X6_draw : Cond.code yX6_draw cX6_draw 6 (some .long) ∈ nT := nT_in (i := 478) rfl (by decide +kernel)
theorem wl_L_99 : Cond.methodLink RL 99 yX6_drawn ∈ nT := nT_in (i := 479) (by decide +kernel) (by decide +kernel)
theorem wi_X6_drawn : Cond.instanceMethod yX6_drawn ∈ nT := nT_in (i := 480) (by decide +kernel) (by decide +kernel)
theorem ws_X6_drawn : Cond.selects RX6 yX6_drawn yX6_drawn ∈ nT := nT_in (i := 481) (by decide +kernel) (by decide +kernel)
set_option maxRecDepth 100000 in
theorem wc_X6_drawn : Cond.code yX6_drawn cX6_drawn 2 (some .int) ∈ nT := nT_in (i := 482) rfl (by decide +kernel)
theorem wl_L_103 : Cond.methodLink RL 103 yX6_expect ∈ nT := nT_in (i := 483) (by decide +kernel) (by decide +kernel)
theorem wi_X6_expect : Cond.instanceMethod yX6_expect ∈ nT := nT_in (i := 484) (by decide +kernel) (by decide +kernel)
theorem ws_X6_expect : Cond.selects RX6 yX6_expect yX6_expect ∈ nT := nT_in (i := 485) (by decide +kernel) (by decide +kernel)
set_option maxRecDepth 100000 in
theorem wc_X6_expect : Cond.code yX6_expect cX6_expect 7 (some .int) ∈ nT := nT_in (i := 486) rfl (by decide +kernel)
theorem wl_X6_212 : Cond.methodLink RX6 212 yX2_add ∈ nT := nT_in (i := 487) (by decide +kernel) (by decide +kernel)
theorem wi_X2_add : Cond.instanceMethod yX2_add ∈ nT := nT_in (i := 488) (by decide +kernel) (by decide +kernel)
theorem ws_X2_add : Cond.selects RX2 yX2_add yX2_add ∈ nT := nT_in (i := 489) (by decide +kernel) (by decide +kernel)
set_option maxRecDepth 100000 in
theorem wc_X2_add : Cond.code yX2_add cX2_add 5 (some .int) ∈ nT := nT_in (i := 490) rfl (by decide +kernel)
theorem wl_L_107 : Cond.methodLink RL 107 yX6_forget ∈ nT := nT_in (i := 491) (by decide +kernel) (by decide +kernel)
theorem wi_X6_forget : Cond.instanceMethod yX6_forget ∈ nT := nT_in (i := 492) (by decide +kernel) (by decide +kernel)
theorem ws_X6_forget : Cond.selects RX6 yX6_forget yX6_forget ∈ nT := nT_in (i := 493) (by decide +kernel) (by decide +kernel)
set_option maxRecDepth 100000 in
theorem wc_X6_forget : Cond.code yX6_forget cX6_forget 3 (some .boolean) ∈ nT := nT_in (i := 494) rfl (by decide +kernel)
theorem wl_L_111 : Cond.methodLink RL 111 yX6_wanted ∈ nT := nT_in (i := 495) (by decide +kernel) (by decide +kernel)
theorem wi_X6_wanted : Cond.instanceMethod yX6_wanted ∈ nT := nT_in (i := 496) (by decide +kernel) (by decide +kernel)
theorem ws_X6_wanted : Cond.selects RX6 yX6_wanted yX6_wanted ∈ nT := nT_in (i := 497) (by decide +kernel) (by decide +kernel)
set_option maxRecDepth 100000 in
theorem wc_X6_wanted : Cond.code yX6_wanted cX6_wanted 4 (some .int) ∈ nT := nT_in (i := 498) rfl (by decide +kernel)
theorem wl_X6_214 : Cond.methodLink RX6 214 yX6_mostLacking ∈ nT := nT_in (i := 499) (by decide +kernel) (by decide +kernel)
theorem wi_X6_mostLacking : Cond.instanceMethod yX6_mostLacking ∈ nT := nT_in (i := 501) (by decide +kernel) (by decide +kernel)
set_option maxRecDepth 100000 in
theorem wc_X6_mostLacking : Cond.code yX6_mostLacking cX6_mostLacking 9 (some .int) ∈ nT := nT_in (i := 502) rfl (by decide +kernel)
theorem wl_X6_238 : Cond.methodLink RX6 238 yJ9_max_7cf53 ∈ nT := nT_in (i := 503) (by decide +kernel) (by decide +kernel)
theorem wt_J9_max_7cf53 : Cond.static yJ9_max_7cf53 ∈ nT := nT_in (i := 504) (by decide +kernel) (by decide +kernel)
set_option maxRecDepth 100000 in
theorem wc_J9_max_7cf53 : Cond.code yJ9_max_7cf53 cJ9_max_7cf53 2 (some .int) ∈ nT := nT_in (i := 505) rfl (by decide +kernel)
theorem wl_L_115 : Cond.methodLink RL 115 yX6_about ∈ nT := nT_in (i := 506) (by decide +kernel) (by decide +kernel)
theorem wi_X6_about : Cond.instanceMethod yX6_about ∈ nT := nT_in (i := 507) (by decide +kernel) (by decide +kernel)
theorem ws_X6_about : Cond.selects RX6 yX6_about yX6_about ∈ nT := nT_in (i := 508) (by decide +kernel) (by decide +kernel)
set_option maxRecDepth 100000 in
theorem wc_X6_about : Cond.code yX6_about cX6_about 4 (some .int) ∈ nT := nT_in (i := 509) rfl (by decide +kernel)
theorem wl_X6_218 : Cond.methodLink RX6 218 yX4_detail ∈ nT := nT_in (i := 510) (by decide +kernel) (by decide +kernel)
theorem wi_X4_detail : Cond.instanceMethod yX4_detail ∈ nT := nT_in (i := 511) (by decide +kernel) (by decide +kernel)
theorem ws_X4_detail : Cond.selects RX4 yX4_detail yX4_detail ∈ nT := nT_in (i := 512) (by decide +kernel) (by decide +kernel)
set_option maxRecDepth 100000 in
theorem wc_X4_detail : Cond.code yX4_detail cX4_detail 2 (some .int) ∈ nT := nT_in (i := 513) rfl (by decide +kernel)
theorem wl_X4_114 : Cond.methodLink RX4 114 yX4_goodDetail ∈ nT := nT_in (i := 514) (by decide +kernel) (by decide +kernel)
theorem wi_X4_goodDetail : Cond.instanceMethod yX4_goodDetail ∈ nT := nT_in (i := 516) (by decide +kernel) (by decide +kernel)
set_option maxRecDepth 100000 in
theorem wc_X4_goodDetail : Cond.code yX4_goodDetail cX4_goodDetail 2 (some .int) ∈ nT := nT_in (i := 517) rfl (by decide +kernel)
theorem wl_X4_117 : Cond.methodLink RX4 117 yX3_isGood ∈ nT := nT_in (i := 518) (by decide +kernel) (by decide +kernel)
theorem wl_X6_221 : Cond.methodLink RX6 221 yX1_detail ∈ nT := nT_in (i := 519) (by decide +kernel) (by decide +kernel)
theorem wi_X1_detail : Cond.instanceMethod yX1_detail ∈ nT := nT_in (i := 520) (by decide +kernel) (by decide +kernel)
theorem ws_X1_detail : Cond.selects RX1 yX1_detail yX1_detail ∈ nT := nT_in (i := 521) (by decide +kernel) (by decide +kernel)
set_option maxRecDepth 100000 in
theorem wc_X1_detail : Cond.code yX1_detail cX1_detail 2 (some .int) ∈ nT := nT_in (i := 522) rfl (by decide +kernel)
theorem wl_X1_63 : Cond.methodLink RX1 63 yX1_isCoin ∈ nT := nT_in (i := 523) (by decide +kernel) (by decide +kernel)
theorem wl_L_119 : Cond.methodLink RL 119 yX6_image ∈ nT := nT_in (i := 524) (by decide +kernel) (by decide +kernel)
theorem wi_X6_image : Cond.instanceMethod yX6_image ∈ nT := nT_in (i := 525) (by decide +kernel) (by decide +kernel)
theorem ws_X6_image : Cond.selects RX6 yX6_image yX6_image ∈ nT := nT_in (i := 526) (by decide +kernel) (by decide +kernel)
set_option maxRecDepth 100000 in
theorem wc_X6_image : Cond.code yX6_image cX6_image 2 (some .boolean) ∈ nT := nT_in (i := 527) rfl (by decide +kernel)
theorem wl_X6_222 : Cond.methodLink RX6 222 yX4_copyFrom ∈ nT := nT_in (i := 528) (by decide +kernel) (by decide +kernel)
theorem wi_X4_copyFrom : Cond.instanceMethod yX4_copyFrom ∈ nT := nT_in (i := 529) (by decide +kernel) (by decide +kernel)
theorem ws_X4_copyFrom : Cond.selects RX4 yX4_copyFrom yX4_copyFrom ∈ nT := nT_in (i := 530) (by decide +kernel) (by decide +kernel)
set_option maxRecDepth 100000 in
theorem wc_X4_copyFrom : Cond.code yX4_copyFrom cX4_copyFrom 3 (none : Option Jvm.ClassFile.FieldType) ∈ nT := nT_in (i := 531) rfl (by decide +kernel)
theorem wl_X4_52 : Cond.methodLink RX4 52 yX1_copyFrom ∈ nT := nT_in (i := 532) (by decide +kernel) (by decide +kernel)
theorem wi_X1_copyFrom : Cond.instanceMethod yX1_copyFrom ∈ nT := nT_in (i := 533) (by decide +kernel) (by decide +kernel)
theorem ws_X1_copyFrom : Cond.selects RX1 yX1_copyFrom yX1_copyFrom ∈ nT := nT_in (i := 534) (by decide +kernel) (by decide +kernel)
set_option maxRecDepth 100000 in
theorem wc_X1_copyFrom : Cond.code yX1_copyFrom cX1_copyFrom 2 (none : Option Jvm.ClassFile.FieldType) ∈ nT := nT_in (i := 535) rfl (by decide +kernel)
theorem wl_X1_31 : Cond.methodLink RX1 31 arraycopyName ∈ nT := nT_in (i := 536) (by decide +kernel) (by decide +kernel)
theorem wt_arraycopyName : Cond.static arraycopyName ∈ nT := nT_in (i := 537) (by decide +kernel) (by decide +kernel)
theorem wz_arraycopyName : Cond.native arraycopyName ∈ nT := nT_in (i := 538) (by decide +kernel) (by decide +kernel)
theorem wl_X4_56 : Cond.methodLink RX4 56 yX3_copyFrom ∈ nT := nT_in (i := 539) (by decide +kernel) (by decide +kernel)
theorem wi_X3_copyFrom : Cond.instanceMethod yX3_copyFrom ∈ nT := nT_in (i := 540) (by decide +kernel) (by decide +kernel)
theorem ws_X3_copyFrom : Cond.selects RX3 yX3_copyFrom yX3_copyFrom ∈ nT := nT_in (i := 541) (by decide +kernel) (by decide +kernel)
set_option maxRecDepth 100000 in
theorem wc_X3_copyFrom : Cond.code yX3_copyFrom cX3_copyFrom 2 (none : Option Jvm.ClassFile.FieldType) ∈ nT := nT_in (i := 542) rfl (by decide +kernel)
theorem wl_X3_22 : Cond.methodLink RX3 22 arraycopyName ∈ nT := nT_in (i := 543) (by decide +kernel) (by decide +kernel)
theorem wl_X4_59 : Cond.methodLink RX4 59 yX5_copyFrom ∈ nT := nT_in (i := 544) (by decide +kernel) (by decide +kernel)
theorem wi_X5_copyFrom : Cond.instanceMethod yX5_copyFrom ∈ nT := nT_in (i := 545) (by decide +kernel) (by decide +kernel)
theorem ws_X5_copyFrom : Cond.selects RX5 yX5_copyFrom yX5_copyFrom ∈ nT := nT_in (i := 546) (by decide +kernel) (by decide +kernel)
set_option maxRecDepth 100000 in
theorem wc_X5_copyFrom : Cond.code yX5_copyFrom cX5_copyFrom 2 (none : Option Jvm.ClassFile.FieldType) ∈ nT := nT_in (i := 547) rfl (by decide +kernel)
theorem wl_X5_39 : Cond.methodLink RX5 39 arraycopyName ∈ nT := nT_in (i := 548) (by decide +kernel) (by decide +kernel)
theorem wl_X5_45 : Cond.methodLink RX5 45 yX2_copyFrom ∈ nT := nT_in (i := 549) (by decide +kernel) (by decide +kernel)
theorem wi_X2_copyFrom : Cond.instanceMethod yX2_copyFrom ∈ nT := nT_in (i := 550) (by decide +kernel) (by decide +kernel)
theorem ws_X2_copyFrom : Cond.selects RX2 yX2_copyFrom yX2_copyFrom ∈ nT := nT_in (i := 551) (by decide +kernel) (by decide +kernel)
set_option maxRecDepth 100000 in
theorem wc_X2_copyFrom : Cond.code yX2_copyFrom cX2_copyFrom 2 (none : Option Jvm.ClassFile.FieldType) ∈ nT := nT_in (i := 552) rfl (by decide +kernel)
theorem wl_X2_28 : Cond.methodLink RX2 28 arraycopyName ∈ nT := nT_in (i := 553) (by decide +kernel) (by decide +kernel)
theorem wl_X4_62 : Cond.methodLink RX4 62 arraycopyName ∈ nT := nT_in (i := 554) (by decide +kernel) (by decide +kernel)
theorem wl_L_123 : Cond.methodLink RL 123 yX6_again ∈ nT := nT_in (i := 555) (by decide +kernel) (by decide +kernel)
theorem wi_X6_again : Cond.instanceMethod yX6_again ∈ nT := nT_in (i := 556) (by decide +kernel) (by decide +kernel)
theorem ws_X6_again : Cond.selects RX6 yX6_again yX6_again ∈ nT := nT_in (i := 557) (by decide +kernel) (by decide +kernel)
set_option maxRecDepth 100000 in
theorem wc_X6_again : Cond.code yX6_again cX6_again 2 (some .boolean) ∈ nT := nT_in (i := 558) rfl (by decide +kernel)
theorem wq_L_10 : Cond.classLink RL 10 RX7 ∈ nT := nT_in (i := 559) (by decide +kernel) (by decide +kernel)
theorem wo_X7 : Cond.instantiable RX7 27 ∈ nT := nT_in (i := 560) (by decide +kernel) (by decide +kernel)
theorem wl_L_12 : Cond.methodLink RL 12 yX7_init ∈ nT := nT_in (i := 561) (by decide +kernel) (by decide +kernel)
theorem wi_X7_init : Cond.instanceMethod yX7_init ∈ nT := nT_in (i := 562) (by decide +kernel) (by decide +kernel)
set_option maxRecDepth 100000 in
theorem wc_X7_init : Cond.code yX7_init cX7_init 1 (none : Option Jvm.ClassFile.FieldType) ∈ nT := nT_in (i := 563) rfl (by decide +kernel)
theorem wl_X7_1 : Cond.methodLink RX7 1 objectInit ∈ nT := nT_in (i := 564) (by decide +kernel) (by decide +kernel)
theorem wf_X7_90 : Cond.fieldLink RX7 90 "NewCoinsModel" "code" "I" ∈ nT := nT_in (i := 565) (by decide +kernel) (by decide +kernel)
theorem wf_X7_7 : Cond.fieldLink RX7 7 "NewCoinsModel" "coins" "[I" ∈ nT := nT_in (i := 566) (by decide +kernel) (by decide +kernel)
theorem wf_X7_13 : Cond.fieldLink RX7 13 "NewCoinsModel" "value" "[I" ∈ nT := nT_in (i := 567) (by decide +kernel) (by decide +kernel)
theorem wf_X7_16 : Cond.fieldLink RX7 16 "NewCoinsModel" "rates" "[I" ∈ nT := nT_in (i := 568) (by decide +kernel) (by decide +kernel)
theorem wf_X7_19 : Cond.fieldLink RX7 19 "NewCoinsModel" "sales" "[I" ∈ nT := nT_in (i := 569) (by decide +kernel) (by decide +kernel)
theorem wf_X7_22 : Cond.fieldLink RX7 22 "NewCoinsModel" "goods" "[I" ∈ nT := nT_in (i := 570) (by decide +kernel) (by decide +kernel)
theorem wf_X7_25 : Cond.fieldLink RX7 25 "NewCoinsModel" "prices" "[I" ∈ nT := nT_in (i := 571) (by decide +kernel) (by decide +kernel)
theorem wf_X7_28 : Cond.fieldLink RX7 28 "NewCoinsModel" "times" "[I" ∈ nT := nT_in (i := 572) (by decide +kernel) (by decide +kernel)
theorem wf_X7_31 : Cond.fieldLink RX7 31 "NewCoinsModel" "steps" "[I" ∈ nT := nT_in (i := 573) (by decide +kernel) (by decide +kernel)
theorem wf_X7_34 : Cond.fieldLink RX7 34 "NewCoinsModel" "tills" "[I" ∈ nT := nT_in (i := 574) (by decide +kernel) (by decide +kernel)
theorem wf_X7_37 : Cond.fieldLink RX7 37 "NewCoinsModel" "tillSales" "[I" ∈ nT := nT_in (i := 575) (by decide +kernel) (by decide +kernel)
theorem wf_X7_40 : Cond.fieldLink RX7 40 "NewCoinsModel" "scraps" "[J" ∈ nT := nT_in (i := 576) (by decide +kernel) (by decide +kernel)
theorem wf_X7_44 : Cond.fieldLink RX7 44 "NewCoinsModel" "paid" "[J" ∈ nT := nT_in (i := 577) (by decide +kernel) (by decide +kernel)
theorem wf_X7_47 : Cond.fieldLink RX7 47 "NewCoinsModel" "expected" "[I" ∈ nT := nT_in (i := 578) (by decide +kernel) (by decide +kernel)
theorem wf_X7_50 : Cond.fieldLink RX7 50 "NewCoinsModel" "has" "[I" ∈ nT := nT_in (i := 579) (by decide +kernel) (by decide +kernel)
theorem wf_X7_53 : Cond.fieldLink RX7 53 "NewCoinsModel" "gave" "[I" ∈ nT := nT_in (i := 580) (by decide +kernel) (by decide +kernel)
theorem wf_X7_56 : Cond.fieldLink RX7 56 "NewCoinsModel" "drawnIn" "[I" ∈ nT := nT_in (i := 581) (by decide +kernel) (by decide +kernel)
theorem wf_X7_59 : Cond.fieldLink RX7 59 "NewCoinsModel" "expects" "[I" ∈ nT := nT_in (i := 582) (by decide +kernel) (by decide +kernel)
theorem wf_X7_62 : Cond.fieldLink RX7 62 "NewCoinsModel" "one" "[J" ∈ nT := nT_in (i := 583) (by decide +kernel) (by decide +kernel)
theorem wf_X7_65 : Cond.fieldLink RX7 65 "NewCoinsModel" "by" "[I" ∈ nT := nT_in (i := 584) (by decide +kernel) (by decide +kernel)
theorem wf_X7_68 : Cond.fieldLink RX7 68 "NewCoinsModel" "few" "[I" ∈ nT := nT_in (i := 585) (by decide +kernel) (by decide +kernel)
theorem wf_X7_71 : Cond.fieldLink RX7 71 "NewCoinsModel" "take" "[I" ∈ nT := nT_in (i := 586) (by decide +kernel) (by decide +kernel)
theorem wf_X7_74 : Cond.fieldLink RX7 74 "NewCoinsModel" "bound" "[I" ∈ nT := nT_in (i := 587) (by decide +kernel) (by decide +kernel)
theorem wf_X7_77 : Cond.fieldLink RX7 77 "NewCoinsModel" "least" "[I" ∈ nT := nT_in (i := 588) (by decide +kernel) (by decide +kernel)
theorem wf_X7_80 : Cond.fieldLink RX7 80 "NewCoinsModel" "pool" "[I" ∈ nT := nT_in (i := 589) (by decide +kernel) (by decide +kernel)
theorem wf_X7_83 : Cond.fieldLink RX7 83 "NewCoinsModel" "want" "[I" ∈ nT := nT_in (i := 590) (by decide +kernel) (by decide +kernel)
theorem wf_X7_86 : Cond.fieldLink RX7 86 "NewCoinsModel" "kept" "[Z" ∈ nT := nT_in (i := 591) (by decide +kernel) (by decide +kernel)
theorem wy_X7_code : Cond.lays "NewCoinsModel" "NewCoinsModel" "code" "I" ∈ nT := nT_in (i := 592) (by decide +kernel) (by decide +kernel)
theorem wy_X7_coins : Cond.laysFinal "NewCoinsModel" "NewCoinsModel" "coins" "[I" ∈ nT := nT_in (i := 594) (by decide +kernel) (by decide +kernel)
theorem wy_X7_value : Cond.laysFinal "NewCoinsModel" "NewCoinsModel" "value" "[I" ∈ nT := nT_in (i := 596) (by decide +kernel) (by decide +kernel)
theorem wy_X7_rates : Cond.laysFinal "NewCoinsModel" "NewCoinsModel" "rates" "[I" ∈ nT := nT_in (i := 598) (by decide +kernel) (by decide +kernel)
theorem wy_X7_sales : Cond.laysFinal "NewCoinsModel" "NewCoinsModel" "sales" "[I" ∈ nT := nT_in (i := 600) (by decide +kernel) (by decide +kernel)
theorem wy_X7_goods : Cond.laysFinal "NewCoinsModel" "NewCoinsModel" "goods" "[I" ∈ nT := nT_in (i := 602) (by decide +kernel) (by decide +kernel)
theorem wy_X7_prices : Cond.laysFinal "NewCoinsModel" "NewCoinsModel" "prices" "[I" ∈ nT := nT_in (i := 604) (by decide +kernel) (by decide +kernel)
theorem wy_X7_times : Cond.laysFinal "NewCoinsModel" "NewCoinsModel" "times" "[I" ∈ nT := nT_in (i := 606) (by decide +kernel) (by decide +kernel)
theorem wy_X7_steps : Cond.laysFinal "NewCoinsModel" "NewCoinsModel" "steps" "[I" ∈ nT := nT_in (i := 608) (by decide +kernel) (by decide +kernel)
theorem wy_X7_tills : Cond.laysFinal "NewCoinsModel" "NewCoinsModel" "tills" "[I" ∈ nT := nT_in (i := 610) (by decide +kernel) (by decide +kernel)
theorem wy_X7_tillSales : Cond.laysFinal "NewCoinsModel" "NewCoinsModel" "tillSales" "[I" ∈ nT := nT_in (i := 612) (by decide +kernel) (by decide +kernel)
theorem wy_X7_scraps : Cond.laysFinal "NewCoinsModel" "NewCoinsModel" "scraps" "[J" ∈ nT := nT_in (i := 614) (by decide +kernel) (by decide +kernel)
theorem wy_X7_paid : Cond.laysFinal "NewCoinsModel" "NewCoinsModel" "paid" "[J" ∈ nT := nT_in (i := 616) (by decide +kernel) (by decide +kernel)
theorem wy_X7_expected : Cond.laysFinal "NewCoinsModel" "NewCoinsModel" "expected" "[I" ∈ nT := nT_in (i := 618) (by decide +kernel) (by decide +kernel)
theorem wy_X7_has : Cond.laysFinal "NewCoinsModel" "NewCoinsModel" "has" "[I" ∈ nT := nT_in (i := 620) (by decide +kernel) (by decide +kernel)
theorem wy_X7_gave : Cond.laysFinal "NewCoinsModel" "NewCoinsModel" "gave" "[I" ∈ nT := nT_in (i := 622) (by decide +kernel) (by decide +kernel)
theorem wy_X7_drawnIn : Cond.laysFinal "NewCoinsModel" "NewCoinsModel" "drawnIn" "[I" ∈ nT := nT_in (i := 624) (by decide +kernel) (by decide +kernel)
theorem wy_X7_expects : Cond.laysFinal "NewCoinsModel" "NewCoinsModel" "expects" "[I" ∈ nT := nT_in (i := 626) (by decide +kernel) (by decide +kernel)
theorem wy_X7_one : Cond.laysFinal "NewCoinsModel" "NewCoinsModel" "one" "[J" ∈ nT := nT_in (i := 628) (by decide +kernel) (by decide +kernel)
theorem wy_X7_by : Cond.laysFinal "NewCoinsModel" "NewCoinsModel" "by" "[I" ∈ nT := nT_in (i := 630) (by decide +kernel) (by decide +kernel)
theorem wy_X7_few : Cond.laysFinal "NewCoinsModel" "NewCoinsModel" "few" "[I" ∈ nT := nT_in (i := 632) (by decide +kernel) (by decide +kernel)
theorem wy_X7_take : Cond.laysFinal "NewCoinsModel" "NewCoinsModel" "take" "[I" ∈ nT := nT_in (i := 634) (by decide +kernel) (by decide +kernel)
theorem wy_X7_bound : Cond.laysFinal "NewCoinsModel" "NewCoinsModel" "bound" "[I" ∈ nT := nT_in (i := 636) (by decide +kernel) (by decide +kernel)
theorem wy_X7_least : Cond.laysFinal "NewCoinsModel" "NewCoinsModel" "least" "[I" ∈ nT := nT_in (i := 638) (by decide +kernel) (by decide +kernel)
theorem wy_X7_pool : Cond.laysFinal "NewCoinsModel" "NewCoinsModel" "pool" "[I" ∈ nT := nT_in (i := 640) (by decide +kernel) (by decide +kernel)
theorem wy_X7_want : Cond.laysFinal "NewCoinsModel" "NewCoinsModel" "want" "[I" ∈ nT := nT_in (i := 642) (by decide +kernel) (by decide +kernel)
theorem wy_X7_kept : Cond.laysFinal "NewCoinsModel" "NewCoinsModel" "kept" "[Z" ∈ nT := nT_in (i := 644) (by decide +kernel) (by decide +kernel)
theorem wl_L_17 : Cond.methodLink RL 17 yX7_coin ∈ nT := nT_in (i := 647) (by decide +kernel) (by decide +kernel)
theorem wi_X7_coin : Cond.instanceMethod yX7_coin ∈ nT := nT_in (i := 648) (by decide +kernel) (by decide +kernel)
theorem ws_X7_coin : Cond.selects RX7 yX7_coin yX7_coin ∈ nT := nT_in (i := 649) (by decide +kernel) (by decide +kernel)
set_option maxRecDepth 100000 in
theorem wc_X7_coin : Cond.code yX7_coin cX7_coin 4 (some .int) ∈ nT := nT_in (i := 650) rfl (by decide +kernel)
theorem wl_X7_98 : Cond.methodLink RX7 98 yX7_in ∈ nT := nT_in (i := 651) (by decide +kernel) (by decide +kernel)
theorem wt_X7_in : Cond.static yX7_in ∈ nT := nT_in (i := 652) (by decide +kernel) (by decide +kernel)
set_option maxRecDepth 100000 in
theorem wc_X7_in : Cond.code yX7_in cX7_in 3 (some .boolean) ∈ nT := nT_in (i := 653) rfl (by decide +kernel)
theorem wl_L_22 : Cond.methodLink RL 22 yX7_rate ∈ nT := nT_in (i := 654) (by decide +kernel) (by decide +kernel)
theorem wi_X7_rate : Cond.instanceMethod yX7_rate ∈ nT := nT_in (i := 655) (by decide +kernel) (by decide +kernel)
theorem ws_X7_rate : Cond.selects RX7 yX7_rate yX7_rate ∈ nT := nT_in (i := 656) (by decide +kernel) (by decide +kernel)
set_option maxRecDepth 100000 in
theorem wc_X7_rate : Cond.code yX7_rate cX7_rate 3 (some .boolean) ∈ nT := nT_in (i := 657) rfl (by decide +kernel)
theorem wl_L_26 : Cond.methodLink RL 26 yX7_good ∈ nT := nT_in (i := 658) (by decide +kernel) (by decide +kernel)
theorem wi_X7_good : Cond.instanceMethod yX7_good ∈ nT := nT_in (i := 659) (by decide +kernel) (by decide +kernel)
theorem ws_X7_good : Cond.selects RX7 yX7_good yX7_good ∈ nT := nT_in (i := 660) (by decide +kernel) (by decide +kernel)
set_option maxRecDepth 100000 in
theorem wc_X7_good : Cond.code yX7_good cX7_good 3 (some .int) ∈ nT := nT_in (i := 661) rfl (by decide +kernel)
theorem wl_L_30 : Cond.methodLink RL 30 yX7_sold ∈ nT := nT_in (i := 662) (by decide +kernel) (by decide +kernel)
theorem wi_X7_sold : Cond.instanceMethod yX7_sold ∈ nT := nT_in (i := 663) (by decide +kernel) (by decide +kernel)
theorem ws_X7_sold : Cond.selects RX7 yX7_sold yX7_sold ∈ nT := nT_in (i := 664) (by decide +kernel) (by decide +kernel)
set_option maxRecDepth 100000 in
theorem wc_X7_sold : Cond.code yX7_sold cX7_sold 3 (some .boolean) ∈ nT := nT_in (i := 665) rfl (by decide +kernel)
theorem wl_X7_102 : Cond.methodLink RX7 102 yX7_isGood ∈ nT := nT_in (i := 666) (by decide +kernel) (by decide +kernel)
theorem wi_X7_isGood : Cond.instanceMethod yX7_isGood ∈ nT := nT_in (i := 668) (by decide +kernel) (by decide +kernel)
set_option maxRecDepth 100000 in
theorem wc_X7_isGood : Cond.code yX7_isGood cX7_isGood 2 (some .boolean) ∈ nT := nT_in (i := 669) rfl (by decide +kernel)
theorem wl_L_35 : Cond.methodLink RL 35 yX7_step ∈ nT := nT_in (i := 670) (by decide +kernel) (by decide +kernel)
theorem wi_X7_step : Cond.instanceMethod yX7_step ∈ nT := nT_in (i := 671) (by decide +kernel) (by decide +kernel)
theorem ws_X7_step : Cond.selects RX7 yX7_step yX7_step ∈ nT := nT_in (i := 672) (by decide +kernel) (by decide +kernel)
set_option maxRecDepth 100000 in
theorem wc_X7_step : Cond.code yX7_step cX7_step 2 (some .boolean) ∈ nT := nT_in (i := 673) rfl (by decide +kernel)
theorem wl_L_39 : Cond.methodLink RL 39 yX7_price ∈ nT := nT_in (i := 674) (by decide +kernel) (by decide +kernel)
theorem wi_X7_price : Cond.instanceMethod yX7_price ∈ nT := nT_in (i := 675) (by decide +kernel) (by decide +kernel)
theorem ws_X7_price : Cond.selects RX7 yX7_price yX7_price ∈ nT := nT_in (i := 676) (by decide +kernel) (by decide +kernel)
set_option maxRecDepth 100000 in
theorem wc_X7_price : Cond.code yX7_price cX7_price 3 (some .int) ∈ nT := nT_in (i := 677) rfl (by decide +kernel)
theorem wl_X7_106 : Cond.methodLink RX7 106 yX7_priceOf ∈ nT := nT_in (i := 678) (by decide +kernel) (by decide +kernel)
theorem wi_X7_priceOf : Cond.instanceMethod yX7_priceOf ∈ nT := nT_in (i := 680) (by decide +kernel) (by decide +kernel)
set_option maxRecDepth 100000 in
theorem wc_X7_priceOf : Cond.code yX7_priceOf cX7_priceOf 9 (some .int) ∈ nT := nT_in (i := 681) rfl (by decide +kernel)
theorem wl_L_44 : Cond.methodLink RL 44 yX7_gain ∈ nT := nT_in (i := 682) (by decide +kernel) (by decide +kernel)
theorem wi_X7_gain : Cond.instanceMethod yX7_gain ∈ nT := nT_in (i := 683) (by decide +kernel) (by decide +kernel)
theorem ws_X7_gain : Cond.selects RX7 yX7_gain yX7_gain ∈ nT := nT_in (i := 684) (by decide +kernel) (by decide +kernel)
set_option maxRecDepth 100000 in
theorem wc_X7_gain : Cond.code yX7_gain cX7_gain 5 (some .long) ∈ nT := nT_in (i := 685) rfl (by decide +kernel)
theorem wl_X7_110 : Cond.methodLink RX7 110 yX7_gainOf ∈ nT := nT_in (i := 686) (by decide +kernel) (by decide +kernel)
theorem wi_X7_gainOf : Cond.instanceMethod yX7_gainOf ∈ nT := nT_in (i := 688) (by decide +kernel) (by decide +kernel)
set_option maxRecDepth 100000 in
theorem wc_X7_gainOf : Cond.code yX7_gainOf cX7_gainOf 3 (some .long) ∈ nT := nT_in (i := 689) rfl (by decide +kernel)
theorem wl_L_49 : Cond.methodLink RL 49 yX7_fairest ∈ nT := nT_in (i := 690) (by decide +kernel) (by decide +kernel)
theorem wi_X7_fairest : Cond.instanceMethod yX7_fairest ∈ nT := nT_in (i := 691) (by decide +kernel) (by decide +kernel)
theorem ws_X7_fairest : Cond.selects RX7 yX7_fairest yX7_fairest ∈ nT := nT_in (i := 692) (by decide +kernel) (by decide +kernel)
set_option maxRecDepth 100000 in
theorem wc_X7_fairest : Cond.code yX7_fairest cX7_fairest 8 (some .int) ∈ nT := nT_in (i := 693) rfl (by decide +kernel)
theorem wk_X7_114 : Cond.constantLong RX7 114 (-1) ∈ nT := nT_in (i := 694) (by decide +kernel) (by decide +kernel)
theorem wl_L_53 : Cond.methodLink RL 53 yX7_gains ∈ nT := nT_in (i := 695) (by decide +kernel) (by decide +kernel)
theorem wi_X7_gains : Cond.instanceMethod yX7_gains ∈ nT := nT_in (i := 696) (by decide +kernel) (by decide +kernel)
theorem ws_X7_gains : Cond.selects RX7 yX7_gains yX7_gains ∈ nT := nT_in (i := 697) (by decide +kernel) (by decide +kernel)
set_option maxRecDepth 100000 in
theorem wc_X7_gains : Cond.code yX7_gains cX7_gains 5 (some .long) ∈ nT := nT_in (i := 698) rfl (by decide +kernel)
theorem wl_L_58 : Cond.methodLink RL 58 yX7_fewest ∈ nT := nT_in (i := 699) (by decide +kernel) (by decide +kernel)
theorem wi_X7_fewest : Cond.instanceMethod yX7_fewest ∈ nT := nT_in (i := 700) (by decide +kernel) (by decide +kernel)
theorem ws_X7_fewest : Cond.selects RX7 yX7_fewest yX7_fewest ∈ nT := nT_in (i := 701) (by decide +kernel) (by decide +kernel)
set_option maxRecDepth 100000 in
theorem wc_X7_fewest : Cond.code yX7_fewest cX7_fewest 5 (some .int) ∈ nT := nT_in (i := 702) rfl (by decide +kernel)
theorem wl_X7_121 : Cond.methodLink RX7 121 yX7_isCoin ∈ nT := nT_in (i := 703) (by decide +kernel) (by decide +kernel)
theorem wi_X7_isCoin : Cond.instanceMethod yX7_isCoin ∈ nT := nT_in (i := 705) (by decide +kernel) (by decide +kernel)
set_option maxRecDepth 100000 in
theorem wc_X7_isCoin : Cond.code yX7_isCoin cX7_isCoin 3 (some .boolean) ∈ nT := nT_in (i := 706) rfl (by decide +kernel)
theorem wl_X7_125 : Cond.methodLink RX7 125 yX7_noBounds ∈ nT := nT_in (i := 707) (by decide +kernel) (by decide +kernel)
theorem wi_X7_noBounds : Cond.instanceMethod yX7_noBounds ∈ nT := nT_in (i := 709) (by decide +kernel) (by decide +kernel)
set_option maxRecDepth 100000 in
theorem wc_X7_noBounds : Cond.code yX7_noBounds cX7_noBounds 2 (none : Option Jvm.ClassFile.FieldType) ∈ nT := nT_in (i := 710) rfl (by decide +kernel)
theorem wl_X7_128 : Cond.methodLink RX7 128 yX7_find ∈ nT := nT_in (i := 711) (by decide +kernel) (by decide +kernel)
theorem wi_X7_find : Cond.instanceMethod yX7_find ∈ nT := nT_in (i := 713) (by decide +kernel) (by decide +kernel)
set_option maxRecDepth 100000 in
theorem wc_X7_find : Cond.code yX7_find cX7_find 11 (some .int) ∈ nT := nT_in (i := 714) rfl (by decide +kernel)
theorem wl_X7_116 : Cond.methodLink RX7 116 yX7_sortCoins ∈ nT := nT_in (i := 715) (by decide +kernel) (by decide +kernel)
theorem wi_X7_sortCoins : Cond.instanceMethod yX7_sortCoins ∈ nT := nT_in (i := 717) (by decide +kernel) (by decide +kernel)
set_option maxRecDepth 100000 in
theorem wc_X7_sortCoins : Cond.code yX7_sortCoins cX7_sortCoins 4 (none : Option Jvm.ClassFile.FieldType) ∈ nT := nT_in (i := 718) rfl (by decide +kernel)
theorem wk_X7_120 : Cond.constant RX7 120 (1000000) ∈ nT := nT_in (i := 719) (by decide +kernel) (by decide +kernel)
theorem wl_L_62 : Cond.methodLink RL 62 yX7_greedy ∈ nT := nT_in (i := 720) (by decide +kernel) (by decide +kernel)
theorem wi_X7_greedy : Cond.instanceMethod yX7_greedy ∈ nT := nT_in (i := 721) (by decide +kernel) (by decide +kernel)
theorem ws_X7_greedy : Cond.selects RX7 yX7_greedy yX7_greedy ∈ nT := nT_in (i := 722) (by decide +kernel) (by decide +kernel)
set_option maxRecDepth 100000 in
theorem wc_X7_greedy : Cond.code yX7_greedy cX7_greedy 3 (some .int) ∈ nT := nT_in (i := 723) rfl (by decide +kernel)
theorem wl_X7_131 : Cond.methodLink RX7 131 yX7_greedyOf ∈ nT := nT_in (i := 724) (by decide +kernel) (by decide +kernel)
theorem wi_X7_greedyOf : Cond.instanceMethod yX7_greedyOf ∈ nT := nT_in (i := 726) (by decide +kernel) (by decide +kernel)
set_option maxRecDepth 100000 in
theorem wc_X7_greedyOf : Cond.code yX7_greedyOf cX7_greedyOf 7 (some .int) ∈ nT := nT_in (i := 727) rfl (by decide +kernel)
theorem wl_L_67 : Cond.methodLink RL 67 yX7_odd ∈ nT := nT_in (i := 728) (by decide +kernel) (by decide +kernel)
theorem wi_X7_odd : Cond.instanceMethod yX7_odd ∈ nT := nT_in (i := 729) (by decide +kernel) (by decide +kernel)
theorem ws_X7_odd : Cond.selects RX7 yX7_odd yX7_odd ∈ nT := nT_in (i := 730) (by decide +kernel) (by decide +kernel)
set_option maxRecDepth 100000 in
theorem wc_X7_odd : Cond.code yX7_odd cX7_odd 5 (some .int) ∈ nT := nT_in (i := 731) rfl (by decide +kernel)
theorem wl_L_71 : Cond.methodLink RL 71 yX7_till ∈ nT := nT_in (i := 732) (by decide +kernel) (by decide +kernel)
theorem wi_X7_till : Cond.instanceMethod yX7_till ∈ nT := nT_in (i := 733) (by decide +kernel) (by decide +kernel)
theorem ws_X7_till : Cond.selects RX7 yX7_till yX7_till ∈ nT := nT_in (i := 734) (by decide +kernel) (by decide +kernel)
set_option maxRecDepth 100000 in
theorem wc_X7_till : Cond.code yX7_till cX7_till 3 (some .int) ∈ nT := nT_in (i := 735) rfl (by decide +kernel)
theorem wl_X7_134 : Cond.methodLink RX7 134 yX7_cell ∈ nT := nT_in (i := 736) (by decide +kernel) (by decide +kernel)
theorem wt_X7_cell : Cond.static yX7_cell ∈ nT := nT_in (i := 737) (by decide +kernel) (by decide +kernel)
set_option maxRecDepth 100000 in
theorem wc_X7_cell : Cond.code yX7_cell cX7_cell 3 (some .int) ∈ nT := nT_in (i := 738) rfl (by decide +kernel)
theorem wl_L_76 : Cond.methodLink RL 76 yX7_put ∈ nT := nT_in (i := 739) (by decide +kernel) (by decide +kernel)
theorem wi_X7_put : Cond.instanceMethod yX7_put ∈ nT := nT_in (i := 740) (by decide +kernel) (by decide +kernel)
theorem ws_X7_put : Cond.selects RX7 yX7_put yX7_put ∈ nT := nT_in (i := 741) (by decide +kernel) (by decide +kernel)
set_option maxRecDepth 100000 in
theorem wc_X7_put : Cond.code yX7_put cX7_put 6 (some .int) ∈ nT := nT_in (i := 742) rfl (by decide +kernel)
theorem wl_X7_138 : Cond.methodLink RX7 138 yX7_isTill ∈ nT := nT_in (i := 743) (by decide +kernel) (by decide +kernel)
theorem wi_X7_isTill : Cond.instanceMethod yX7_isTill ∈ nT := nT_in (i := 745) (by decide +kernel) (by decide +kernel)
set_option maxRecDepth 100000 in
theorem wc_X7_isTill : Cond.code yX7_isTill cX7_isTill 2 (some .boolean) ∈ nT := nT_in (i := 746) rfl (by decide +kernel)
theorem wl_L_81 : Cond.methodLink RL 81 yX7_sale ∈ nT := nT_in (i := 747) (by decide +kernel) (by decide +kernel)
theorem wi_X7_sale : Cond.instanceMethod yX7_sale ∈ nT := nT_in (i := 748) (by decide +kernel) (by decide +kernel)
theorem ws_X7_sale : Cond.selects RX7 yX7_sale yX7_sale ∈ nT := nT_in (i := 749) (by decide +kernel) (by decide +kernel)
set_option maxRecDepth 100000 in
theorem wc_X7_sale : Cond.code yX7_sale cX7_sale 11 (some .int) ∈ nT := nT_in (i := 750) rfl (by decide +kernel)
theorem wl_X7_141 : Cond.methodLink RX7 141 yX7_isSale ∈ nT := nT_in (i := 751) (by decide +kernel) (by decide +kernel)
theorem wi_X7_isSale : Cond.instanceMethod yX7_isSale ∈ nT := nT_in (i := 753) (by decide +kernel) (by decide +kernel)
set_option maxRecDepth 100000 in
theorem wc_X7_isSale : Cond.code yX7_isSale cX7_isSale 6 (some .boolean) ∈ nT := nT_in (i := 754) rfl (by decide +kernel)
theorem wl_X7_145 : Cond.methodLink RX7 145 yX7_over ∈ nT := nT_in (i := 755) (by decide +kernel) (by decide +kernel)
theorem wi_X7_over : Cond.instanceMethod yX7_over ∈ nT := nT_in (i := 757) (by decide +kernel) (by decide +kernel)
set_option maxRecDepth 100000 in
theorem wc_X7_over : Cond.code yX7_over cX7_over 5 (some .int) ∈ nT := nT_in (i := 758) rfl (by decide +kernel)
theorem wl_L_85 : Cond.methodLink RL 85 yX7_given ∈ nT := nT_in (i := 759) (by decide +kernel) (by decide +kernel)
theorem wi_X7_given : Cond.instanceMethod yX7_given ∈ nT := nT_in (i := 760) (by decide +kernel) (by decide +kernel)
theorem ws_X7_given : Cond.selects RX7 yX7_given yX7_given ∈ nT := nT_in (i := 761) (by decide +kernel) (by decide +kernel)
set_option maxRecDepth 100000 in
theorem wc_X7_given : Cond.code yX7_given cX7_given 3 (some .int) ∈ nT := nT_in (i := 762) rfl (by decide +kernel)
theorem wl_L_90 : Cond.methodLink RL 90 yX7_tell ∈ nT := nT_in (i := 763) (by decide +kernel) (by decide +kernel)
theorem wi_X7_tell : Cond.instanceMethod yX7_tell ∈ nT := nT_in (i := 764) (by decide +kernel) (by decide +kernel)
theorem ws_X7_tell : Cond.selects RX7 yX7_tell yX7_tell ∈ nT := nT_in (i := 765) (by decide +kernel) (by decide +kernel)
set_option maxRecDepth 100000 in
theorem wc_X7_tell : Cond.code yX7_tell cX7_tell 3 (some .long) ∈ nT := nT_in (i := 766) rfl (by decide +kernel)
theorem wl_X7_149 : Cond.methodLink RX7 149 yX7_parts ∈ nT := nT_in (i := 767) (by decide +kernel) (by decide +kernel)
theorem wi_X7_parts : Cond.instanceMethod yX7_parts ∈ nT := nT_in (i := 769) (by decide +kernel) (by decide +kernel)
set_option maxRecDepth 100000 in
theorem wc_X7_parts : Cond.code yX7_parts cX7_parts 6 (some .long) ∈ nT := nT_in (i := 770) rfl (by decide +kernel)
theorem wl_L_94 : Cond.methodLink RL 94 yX7_has ∈ nT := nT_in (i := 771) (by decide +kernel) (by decide +kernel)
theorem wi_X7_has : Cond.instanceMethod yX7_has ∈ nT := nT_in (i := 772) (by decide +kernel) (by decide +kernel)
theorem ws_X7_has : Cond.selects RX7 yX7_has yX7_has ∈ nT := nT_in (i := 773) (by decide +kernel) (by decide +kernel)
set_option maxRecDepth 100000 in
theorem wc_X7_has : Cond.code yX7_has cX7_has 4 (some .int) ∈ nT := nT_in (i := 774) rfl (by decide +kernel)
theorem wl_L_98 : Cond.methodLink RL 98 yX7_draw ∈ nT := nT_in (i := 775) (by decide +kernel) (by decide +kernel)
theorem wi_X7_draw : Cond.instanceMethod yX7_draw ∈ nT := nT_in (i := 776) (by decide +kernel) (by decide +kernel)
theorem ws_X7_draw : Cond.selects RX7 yX7_draw yX7_draw ∈ nT := nT_in (i := 777) (by decide +kernel) (by decide +kernel)
set_option maxRecDepth 100000 in
theorem wc_X7_draw : Cond.code yX7_draw cX7_draw 5 (some .long) ∈ nT := nT_in (i := 778) rfl (by decide +kernel)
theorem wl_L_102 : Cond.methodLink RL 102 yX7_drawn ∈ nT := nT_in (i := 779) (by decide +kernel) (by decide +kernel)
theorem wi_X7_drawn : Cond.instanceMethod yX7_drawn ∈ nT := nT_in (i := 780) (by decide +kernel) (by decide +kernel)
theorem ws_X7_drawn : Cond.selects RX7 yX7_drawn yX7_drawn ∈ nT := nT_in (i := 781) (by decide +kernel) (by decide +kernel)
set_option maxRecDepth 100000 in
theorem wc_X7_drawn : Cond.code yX7_drawn cX7_drawn 2 (some .int) ∈ nT := nT_in (i := 782) rfl (by decide +kernel)
theorem wl_L_106 : Cond.methodLink RL 106 yX7_expect ∈ nT := nT_in (i := 783) (by decide +kernel) (by decide +kernel)
theorem wi_X7_expect : Cond.instanceMethod yX7_expect ∈ nT := nT_in (i := 784) (by decide +kernel) (by decide +kernel)
theorem ws_X7_expect : Cond.selects RX7 yX7_expect yX7_expect ∈ nT := nT_in (i := 785) (by decide +kernel) (by decide +kernel)
set_option maxRecDepth 100000 in
theorem wc_X7_expect : Cond.code yX7_expect cX7_expect 7 (some .int) ∈ nT := nT_in (i := 786) rfl (by decide +kernel)
theorem wl_L_110 : Cond.methodLink RL 110 yX7_forget ∈ nT := nT_in (i := 787) (by decide +kernel) (by decide +kernel)
theorem wi_X7_forget : Cond.instanceMethod yX7_forget ∈ nT := nT_in (i := 788) (by decide +kernel) (by decide +kernel)
theorem ws_X7_forget : Cond.selects RX7 yX7_forget yX7_forget ∈ nT := nT_in (i := 789) (by decide +kernel) (by decide +kernel)
set_option maxRecDepth 100000 in
theorem wc_X7_forget : Cond.code yX7_forget cX7_forget 2 (some .boolean) ∈ nT := nT_in (i := 790) rfl (by decide +kernel)
theorem wl_L_114 : Cond.methodLink RL 114 yX7_wanted ∈ nT := nT_in (i := 791) (by decide +kernel) (by decide +kernel)
theorem wi_X7_wanted : Cond.instanceMethod yX7_wanted ∈ nT := nT_in (i := 792) (by decide +kernel) (by decide +kernel)
theorem ws_X7_wanted : Cond.selects RX7 yX7_wanted yX7_wanted ∈ nT := nT_in (i := 793) (by decide +kernel) (by decide +kernel)
set_option maxRecDepth 100000 in
theorem wc_X7_wanted : Cond.code yX7_wanted cX7_wanted 3 (some .int) ∈ nT := nT_in (i := 794) rfl (by decide +kernel)
theorem wl_X7_152 : Cond.methodLink RX7 152 yX7_findWanted ∈ nT := nT_in (i := 795) (by decide +kernel) (by decide +kernel)
theorem wi_X7_findWanted : Cond.instanceMethod yX7_findWanted ∈ nT := nT_in (i := 797) (by decide +kernel) (by decide +kernel)
set_option maxRecDepth 100000 in
theorem wc_X7_findWanted : Cond.code yX7_findWanted cX7_findWanted 8 (some .boolean) ∈ nT := nT_in (i := 798) rfl (by decide +kernel)
theorem wl_L_118 : Cond.methodLink RL 118 yX7_about ∈ nT := nT_in (i := 799) (by decide +kernel) (by decide +kernel)
theorem wi_X7_about : Cond.instanceMethod yX7_about ∈ nT := nT_in (i := 800) (by decide +kernel) (by decide +kernel)
theorem ws_X7_about : Cond.selects RX7 yX7_about yX7_about ∈ nT := nT_in (i := 801) (by decide +kernel) (by decide +kernel)
set_option maxRecDepth 100000 in
theorem wc_X7_about : Cond.code yX7_about cX7_about 3 (some .int) ∈ nT := nT_in (i := 802) rfl (by decide +kernel)
theorem wl_L_122 : Cond.methodLink RL 122 yX7_image ∈ nT := nT_in (i := 803) (by decide +kernel) (by decide +kernel)
theorem wi_X7_image : Cond.instanceMethod yX7_image ∈ nT := nT_in (i := 804) (by decide +kernel) (by decide +kernel)
theorem ws_X7_image : Cond.selects RX7 yX7_image yX7_image ∈ nT := nT_in (i := 805) (by decide +kernel) (by decide +kernel)
set_option maxRecDepth 100000 in
theorem wc_X7_image : Cond.code yX7_image cX7_image 2 (some .boolean) ∈ nT := nT_in (i := 806) rfl (by decide +kernel)
theorem wl_X7_155 : Cond.methodLink RX7 155 yX7_copy ∈ nT := nT_in (i := 807) (by decide +kernel) (by decide +kernel)
theorem wi_X7_copy : Cond.instanceMethod yX7_copy ∈ nT := nT_in (i := 809) (by decide +kernel) (by decide +kernel)
set_option maxRecDepth 100000 in
theorem wc_X7_copy : Cond.code yX7_copy cX7_copy 4 (none : Option Jvm.ClassFile.FieldType) ∈ nT := nT_in (i := 810) rfl (by decide +kernel)
theorem wl_X7_94 : Cond.methodLink RX7 94 yX7_move ∈ nT := nT_in (i := 811) (by decide +kernel) (by decide +kernel)
theorem wt_X7_move : Cond.static yX7_move ∈ nT := nT_in (i := 812) (by decide +kernel) (by decide +kernel)
set_option maxRecDepth 100000 in
theorem wc_X7_move : Cond.code yX7_move cX7_move 5 (none : Option Jvm.ClassFile.FieldType) ∈ nT := nT_in (i := 813) rfl (by decide +kernel)
theorem wl_L_126 : Cond.methodLink RL 126 yX7_again ∈ nT := nT_in (i := 814) (by decide +kernel) (by decide +kernel)
theorem wi_X7_again : Cond.instanceMethod yX7_again ∈ nT := nT_in (i := 815) (by decide +kernel) (by decide +kernel)
theorem ws_X7_again : Cond.selects RX7 yX7_again yX7_again ∈ nT := nT_in (i := 816) (by decide +kernel) (by decide +kernel)
set_option maxRecDepth 100000 in
theorem wc_X7_again : Cond.code yX7_again cX7_again 2 (some .boolean) ∈ nT := nT_in (i := 817) rfl (by decide +kernel)
theorem ul_X0 : ∀ w ∈ [Cond.laysFinal "NewCoins$ChangeMaker" "NewCoins$ChangeMaker" "row" "[I", Cond.laysFinal "NewCoins$ChangeMaker" "NewCoins$ChangeMaker" "least" "[[I", Cond.laysFinal "NewCoins$ChangeMaker" "NewCoins$ChangeMaker" "places" "[I", Cond.laysFinal "NewCoins$ChangeMaker" "NewCoins$ChangeMaker" "costs" "[I"], w ∈ nT := List.forall_mem_cons.mpr ⟨wy_X0_row, List.forall_mem_cons.mpr ⟨wy_X0_least, List.forall_mem_cons.mpr ⟨wy_X0_places, List.forall_mem_cons.mpr ⟨wy_X0_costs, fun _ h => absurd h List.not_mem_nil⟩⟩⟩⟩
theorem ue_X0 : wsX00 = [Cond.laysFinal "NewCoins$ChangeMaker" "NewCoins$ChangeMaker" "row" "[I", Cond.laysFinal "NewCoins$ChangeMaker" "NewCoins$ChangeMaker" "least" "[[I", Cond.laysFinal "NewCoins$ChangeMaker" "NewCoins$ChangeMaker" "places" "[I", Cond.laysFinal "NewCoins$ChangeMaker" "NewCoins$ChangeMaker" "costs" "[I"] := by decide +kernel
theorem u_X0 {cx : Cond} : ∀ w ∈ wsX00, w ∈ cx :: nT := fun w h => List.mem_cons_of_mem _ (ul_X0 w (by rw [← ue_X0]; exact h))
theorem ul_X1 : ∀ w ∈ [Cond.lays "NewCoins$Coinage" "NewCoins$Coinage" "count" "I", Cond.laysFinal "NewCoins$Coinage" "NewCoins$Coinage" "values" "[I", Cond.laysFinal "NewCoins$Coinage" "NewCoins$Coinage" "falling" "[I", Cond.laysFinal "NewCoins$Coinage" "NewCoins$Coinage" "least" "[I"], w ∈ nT := List.forall_mem_cons.mpr ⟨wy_X1_count, List.forall_mem_cons.mpr ⟨wy_X1_values, List.forall_mem_cons.mpr ⟨wy_X1_falling, List.forall_mem_cons.mpr ⟨wy_X1_least, fun _ h => absurd h List.not_mem_nil⟩⟩⟩⟩
theorem ue_X1 : wsX10 = [Cond.lays "NewCoins$Coinage" "NewCoins$Coinage" "count" "I", Cond.laysFinal "NewCoins$Coinage" "NewCoins$Coinage" "values" "[I", Cond.laysFinal "NewCoins$Coinage" "NewCoins$Coinage" "falling" "[I", Cond.laysFinal "NewCoins$Coinage" "NewCoins$Coinage" "least" "[I"] := by decide +kernel
theorem u_X1 {cx : Cond} : ∀ w ∈ wsX10, w ∈ cx :: nT := fun w h => List.mem_cons_of_mem _ (ul_X1 w (by rw [← ue_X1]; exact h))
theorem ul_X2 : ∀ w ∈ [Cond.lays "NewCoins$Expected" "NewCoins$Expected" "count" "I", Cond.laysFinal "NewCoins$Expected" "NewCoins$Expected" "prices" "[I", Cond.laysFinal "NewCoins$Expected" "NewCoins$Expected" "systems" "[I", Cond.laysFinal "NewCoins$Expected" "NewCoins$Expected" "coins" "[I", Cond.laysFinal "NewCoins$Expected" "NewCoins$Expected" "numbers" "[I"], w ∈ nT := List.forall_mem_cons.mpr ⟨wy_X2_count, List.forall_mem_cons.mpr ⟨wy_X2_prices, List.forall_mem_cons.mpr ⟨wy_X2_systems, List.forall_mem_cons.mpr ⟨wy_X2_coins, List.forall_mem_cons.mpr ⟨wy_X2_numbers, fun _ h => absurd h List.not_mem_nil⟩⟩⟩⟩⟩
theorem ue_X2 : wsX20 = [Cond.lays "NewCoins$Expected" "NewCoins$Expected" "count" "I", Cond.laysFinal "NewCoins$Expected" "NewCoins$Expected" "prices" "[I", Cond.laysFinal "NewCoins$Expected" "NewCoins$Expected" "systems" "[I", Cond.laysFinal "NewCoins$Expected" "NewCoins$Expected" "coins" "[I", Cond.laysFinal "NewCoins$Expected" "NewCoins$Expected" "numbers" "[I"] := by decide +kernel
theorem u_X2 {cx : Cond} : ∀ w ∈ wsX20, w ∈ cx :: nT := fun w h => List.mem_cons_of_mem _ (ul_X2 w (by rw [← ue_X2]; exact h))
theorem ul_X3 : ∀ w ∈ [Cond.lays "NewCoins$Goods" "NewCoins$Goods" "count" "I", Cond.laysFinal "NewCoins$Goods" "NewCoins$Goods" "prices" "[I", Cond.laysFinal "NewCoins$Goods" "NewCoins$Goods" "times" "[I"], w ∈ nT := List.forall_mem_cons.mpr ⟨wy_X3_count, List.forall_mem_cons.mpr ⟨wy_X3_prices, List.forall_mem_cons.mpr ⟨wy_X3_times, fun _ h => absurd h List.not_mem_nil⟩⟩⟩
theorem ue_X3 : wsX30 = [Cond.lays "NewCoins$Goods" "NewCoins$Goods" "count" "I", Cond.laysFinal "NewCoins$Goods" "NewCoins$Goods" "prices" "[I", Cond.laysFinal "NewCoins$Goods" "NewCoins$Goods" "times" "[I"] := by decide +kernel
theorem u_X3 {cx : Cond} : ∀ w ∈ wsX30, w ∈ cx :: nT := fun w h => List.mem_cons_of_mem _ (ul_X3 w (by rw [← ue_X3]; exact h))
theorem ul_X4 : ∀ w ∈ [Cond.laysFinal "NewCoins$Land" "NewCoins$Land" "old" "LNewCoins$Coinage;", Cond.laysFinal "NewCoins$Land" "NewCoins$Land" "fresh" "LNewCoins$Coinage;", Cond.laysFinal "NewCoins$Land" "NewCoins$Land" "goods" "LNewCoins$Goods;", Cond.laysFinal "NewCoins$Land" "NewCoins$Land" "tills" "[LNewCoins$Till;", Cond.laysFinal "NewCoins$Land" "NewCoins$Land" "drawnIn" "[I", Cond.lays "NewCoins$Land" "NewCoins$Land" "tillCount" "I", Cond.lays "NewCoins$Land" "NewCoins$Land" "a" "I", Cond.lays "NewCoins$Land" "NewCoins$Land" "b" "I", Cond.lays "NewCoins$Land" "NewCoins$Land" "step" "I"], w ∈ nT := List.forall_mem_cons.mpr ⟨wy_X4_old, List.forall_mem_cons.mpr ⟨wy_X4_fresh, List.forall_mem_cons.mpr ⟨wy_X4_goods, List.forall_mem_cons.mpr ⟨wy_X4_tills, List.forall_mem_cons.mpr ⟨wy_X4_drawnIn, List.forall_mem_cons.mpr ⟨wy_X4_tillCount, List.forall_mem_cons.mpr ⟨wy_X4_a, List.forall_mem_cons.mpr ⟨wy_X4_b, List.forall_mem_cons.mpr ⟨wy_X4_step, fun _ h => absurd h List.not_mem_nil⟩⟩⟩⟩⟩⟩⟩⟩⟩
theorem ue_X4 : wsX40 = [Cond.laysFinal "NewCoins$Land" "NewCoins$Land" "old" "LNewCoins$Coinage;", Cond.laysFinal "NewCoins$Land" "NewCoins$Land" "fresh" "LNewCoins$Coinage;", Cond.laysFinal "NewCoins$Land" "NewCoins$Land" "goods" "LNewCoins$Goods;", Cond.laysFinal "NewCoins$Land" "NewCoins$Land" "tills" "[LNewCoins$Till;", Cond.laysFinal "NewCoins$Land" "NewCoins$Land" "drawnIn" "[I", Cond.lays "NewCoins$Land" "NewCoins$Land" "tillCount" "I", Cond.lays "NewCoins$Land" "NewCoins$Land" "a" "I", Cond.lays "NewCoins$Land" "NewCoins$Land" "b" "I", Cond.lays "NewCoins$Land" "NewCoins$Land" "step" "I"] := by decide +kernel
theorem u_X4 {cx : Cond} : ∀ w ∈ wsX40, w ∈ cx :: nT := fun w h => List.mem_cons_of_mem _ (ul_X4 w (by rw [← ue_X4]; exact h))
theorem ul_X5 : ∀ w ∈ [Cond.laysFinal "NewCoins$Till" "NewCoins$Till" "old" "[I", Cond.laysFinal "NewCoins$Till" "NewCoins$Till" "fresh" "[I", Cond.laysFinal "NewCoins$Till" "NewCoins$Till" "latest" "[I", Cond.laysFinal "NewCoins$Till" "NewCoins$Till" "expected" "LNewCoins$Expected;", Cond.lays "NewCoins$Till" "NewCoins$Till" "sales" "I", Cond.lays "NewCoins$Till" "NewCoins$Till" "scraps" "J", Cond.lays "NewCoins$Till" "NewCoins$Till" "takings" "J"], w ∈ nT := List.forall_mem_cons.mpr ⟨wy_X5_old, List.forall_mem_cons.mpr ⟨wy_X5_fresh, List.forall_mem_cons.mpr ⟨wy_X5_latest, List.forall_mem_cons.mpr ⟨wy_X5_expected, List.forall_mem_cons.mpr ⟨wy_X5_sales, List.forall_mem_cons.mpr ⟨wy_X5_scraps, List.forall_mem_cons.mpr ⟨wy_X5_takings, fun _ h => absurd h List.not_mem_nil⟩⟩⟩⟩⟩⟩⟩
theorem ue_X5 : wsX50 = [Cond.laysFinal "NewCoins$Till" "NewCoins$Till" "old" "[I", Cond.laysFinal "NewCoins$Till" "NewCoins$Till" "fresh" "[I", Cond.laysFinal "NewCoins$Till" "NewCoins$Till" "latest" "[I", Cond.laysFinal "NewCoins$Till" "NewCoins$Till" "expected" "LNewCoins$Expected;", Cond.lays "NewCoins$Till" "NewCoins$Till" "sales" "I", Cond.lays "NewCoins$Till" "NewCoins$Till" "scraps" "J", Cond.lays "NewCoins$Till" "NewCoins$Till" "takings" "J"] := by decide +kernel
theorem u_X5 {cx : Cond} : ∀ w ∈ wsX50, w ∈ cx :: nT := fun w h => List.mem_cons_of_mem _ (ul_X5 w (by rw [← ue_X5]; exact h))
theorem ul_X6 : ∀ w ∈ [Cond.laysFinal "NewCoins" "NewCoins" "now" "LNewCoins$Land;", Cond.laysFinal "NewCoins" "NewCoins" "images" "[LNewCoins$Land;", Cond.laysFinal "NewCoins" "NewCoins" "taken" "[Z", Cond.laysFinal "NewCoins" "NewCoins" "maker" "LNewCoins$ChangeMaker;", Cond.laysFinal "NewCoins" "NewCoins" "fewestRow" "[I", Cond.laysFinal "NewCoins" "NewCoins" "turns" "[J"], w ∈ nT := List.forall_mem_cons.mpr ⟨wy_X6_now, List.forall_mem_cons.mpr ⟨wy_X6_images, List.forall_mem_cons.mpr ⟨wy_X6_taken, List.forall_mem_cons.mpr ⟨wy_X6_maker, List.forall_mem_cons.mpr ⟨wy_X6_fewestRow, List.forall_mem_cons.mpr ⟨wy_X6_turns, fun _ h => absurd h List.not_mem_nil⟩⟩⟩⟩⟩⟩
theorem ue_X6 : wsX60 = [Cond.laysFinal "NewCoins" "NewCoins" "now" "LNewCoins$Land;", Cond.laysFinal "NewCoins" "NewCoins" "images" "[LNewCoins$Land;", Cond.laysFinal "NewCoins" "NewCoins" "taken" "[Z", Cond.laysFinal "NewCoins" "NewCoins" "maker" "LNewCoins$ChangeMaker;", Cond.laysFinal "NewCoins" "NewCoins" "fewestRow" "[I", Cond.laysFinal "NewCoins" "NewCoins" "turns" "[J"] := by decide +kernel
theorem u_X6 {cx : Cond} : ∀ w ∈ wsX60, w ∈ cx :: nT := fun w h => List.mem_cons_of_mem _ (ul_X6 w (by rw [← ue_X6]; exact h))
theorem ul_X7 : ∀ w ∈ [Cond.lays "NewCoinsModel" "NewCoinsModel" "code" "I", Cond.laysFinal "NewCoinsModel" "NewCoinsModel" "coins" "[I", Cond.laysFinal "NewCoinsModel" "NewCoinsModel" "value" "[I", Cond.laysFinal "NewCoinsModel" "NewCoinsModel" "rates" "[I", Cond.laysFinal "NewCoinsModel" "NewCoinsModel" "sales" "[I", Cond.laysFinal "NewCoinsModel" "NewCoinsModel" "goods" "[I", Cond.laysFinal "NewCoinsModel" "NewCoinsModel" "prices" "[I", Cond.laysFinal "NewCoinsModel" "NewCoinsModel" "times" "[I", Cond.laysFinal "NewCoinsModel" "NewCoinsModel" "steps" "[I", Cond.laysFinal "NewCoinsModel" "NewCoinsModel" "tills" "[I", Cond.laysFinal "NewCoinsModel" "NewCoinsModel" "tillSales" "[I", Cond.laysFinal "NewCoinsModel" "NewCoinsModel" "scraps" "[J", Cond.laysFinal "NewCoinsModel" "NewCoinsModel" "paid" "[J", Cond.laysFinal "NewCoinsModel" "NewCoinsModel" "expected" "[I", Cond.laysFinal "NewCoinsModel" "NewCoinsModel" "has" "[I", Cond.laysFinal "NewCoinsModel" "NewCoinsModel" "gave" "[I", Cond.laysFinal "NewCoinsModel" "NewCoinsModel" "drawnIn" "[I", Cond.laysFinal "NewCoinsModel" "NewCoinsModel" "expects" "[I", Cond.laysFinal "NewCoinsModel" "NewCoinsModel" "one" "[J", Cond.laysFinal "NewCoinsModel" "NewCoinsModel" "by" "[I", Cond.laysFinal "NewCoinsModel" "NewCoinsModel" "few" "[I", Cond.laysFinal "NewCoinsModel" "NewCoinsModel" "take" "[I", Cond.laysFinal "NewCoinsModel" "NewCoinsModel" "bound" "[I", Cond.laysFinal "NewCoinsModel" "NewCoinsModel" "least" "[I", Cond.laysFinal "NewCoinsModel" "NewCoinsModel" "pool" "[I", Cond.laysFinal "NewCoinsModel" "NewCoinsModel" "want" "[I", Cond.laysFinal "NewCoinsModel" "NewCoinsModel" "kept" "[Z"], w ∈ nT := List.forall_mem_cons.mpr ⟨wy_X7_code, List.forall_mem_cons.mpr ⟨wy_X7_coins, List.forall_mem_cons.mpr ⟨wy_X7_value, List.forall_mem_cons.mpr ⟨wy_X7_rates, List.forall_mem_cons.mpr ⟨wy_X7_sales, List.forall_mem_cons.mpr ⟨wy_X7_goods, List.forall_mem_cons.mpr ⟨wy_X7_prices, List.forall_mem_cons.mpr ⟨wy_X7_times, List.forall_mem_cons.mpr ⟨wy_X7_steps, List.forall_mem_cons.mpr ⟨wy_X7_tills, List.forall_mem_cons.mpr ⟨wy_X7_tillSales, List.forall_mem_cons.mpr ⟨wy_X7_scraps, List.forall_mem_cons.mpr ⟨wy_X7_paid, List.forall_mem_cons.mpr ⟨wy_X7_expected, List.forall_mem_cons.mpr ⟨wy_X7_has, List.forall_mem_cons.mpr ⟨wy_X7_gave, List.forall_mem_cons.mpr ⟨wy_X7_drawnIn, List.forall_mem_cons.mpr ⟨wy_X7_expects, List.forall_mem_cons.mpr ⟨wy_X7_one, List.forall_mem_cons.mpr ⟨wy_X7_by, List.forall_mem_cons.mpr ⟨wy_X7_few, List.forall_mem_cons.mpr ⟨wy_X7_take, List.forall_mem_cons.mpr ⟨wy_X7_bound, List.forall_mem_cons.mpr ⟨wy_X7_least, List.forall_mem_cons.mpr ⟨wy_X7_pool, List.forall_mem_cons.mpr ⟨wy_X7_want, List.forall_mem_cons.mpr ⟨wy_X7_kept, fun _ h => absurd h List.not_mem_nil⟩⟩⟩⟩⟩⟩⟩⟩⟩⟩⟩⟩⟩⟩⟩⟩⟩⟩⟩⟩⟩⟩⟩⟩⟩⟩⟩
theorem ue_X7 : wsX70 = [Cond.lays "NewCoinsModel" "NewCoinsModel" "code" "I", Cond.laysFinal "NewCoinsModel" "NewCoinsModel" "coins" "[I", Cond.laysFinal "NewCoinsModel" "NewCoinsModel" "value" "[I", Cond.laysFinal "NewCoinsModel" "NewCoinsModel" "rates" "[I", Cond.laysFinal "NewCoinsModel" "NewCoinsModel" "sales" "[I", Cond.laysFinal "NewCoinsModel" "NewCoinsModel" "goods" "[I", Cond.laysFinal "NewCoinsModel" "NewCoinsModel" "prices" "[I", Cond.laysFinal "NewCoinsModel" "NewCoinsModel" "times" "[I", Cond.laysFinal "NewCoinsModel" "NewCoinsModel" "steps" "[I", Cond.laysFinal "NewCoinsModel" "NewCoinsModel" "tills" "[I", Cond.laysFinal "NewCoinsModel" "NewCoinsModel" "tillSales" "[I", Cond.laysFinal "NewCoinsModel" "NewCoinsModel" "scraps" "[J", Cond.laysFinal "NewCoinsModel" "NewCoinsModel" "paid" "[J", Cond.laysFinal "NewCoinsModel" "NewCoinsModel" "expected" "[I", Cond.laysFinal "NewCoinsModel" "NewCoinsModel" "has" "[I", Cond.laysFinal "NewCoinsModel" "NewCoinsModel" "gave" "[I", Cond.laysFinal "NewCoinsModel" "NewCoinsModel" "drawnIn" "[I", Cond.laysFinal "NewCoinsModel" "NewCoinsModel" "expects" "[I", Cond.laysFinal "NewCoinsModel" "NewCoinsModel" "one" "[J", Cond.laysFinal "NewCoinsModel" "NewCoinsModel" "by" "[I", Cond.laysFinal "NewCoinsModel" "NewCoinsModel" "few" "[I", Cond.laysFinal "NewCoinsModel" "NewCoinsModel" "take" "[I", Cond.laysFinal "NewCoinsModel" "NewCoinsModel" "bound" "[I", Cond.laysFinal "NewCoinsModel" "NewCoinsModel" "least" "[I", Cond.laysFinal "NewCoinsModel" "NewCoinsModel" "pool" "[I", Cond.laysFinal "NewCoinsModel" "NewCoinsModel" "want" "[I", Cond.laysFinal "NewCoinsModel" "NewCoinsModel" "kept" "[Z"] := by decide +kernel
theorem u_X7 {cx : Cond} : ∀ w ∈ wsX70, w ∈ cx :: nT := fun w h => List.mem_cons_of_mem _ (ul_X7 w (by rw [← ue_X7]; exact h))
def wsX6_init : List Cond := Cond.code yX6_init cX6_init 2 (none : Option Jvm.ClassFile.FieldType) :: nT
def wsX4_init : List Cond := Cond.code yX4_init cX4_init 2 (none : Option Jvm.ClassFile.FieldType) :: nT
def wsX1_init : List Cond := Cond.code yX1_init cX1_init 1 (none : Option Jvm.ClassFile.FieldType) :: nT
def wsJ7_fill_53178 : List Cond := Cond.code yJ7_fill_53178 cJ7_fill_53178 4 (none : Option Jvm.ClassFile.FieldType) :: nT
def wsX3_init : List Cond := Cond.code yX3_init cX3_init 1 (none : Option Jvm.ClassFile.FieldType) :: nT
def wsX5_init : List Cond := Cond.code yX5_init cX5_init 1 (none : Option Jvm.ClassFile.FieldType) :: nT
def wsX2_init : List Cond := Cond.code yX2_init cX2_init 1 (none : Option Jvm.ClassFile.FieldType) :: nT
def wsX0_init : List Cond := Cond.code yX0_init cX0_init 1 (none : Option Jvm.ClassFile.FieldType) :: nT
def wsX6_coin : List Cond := Cond.code yX6_coin cX6_coin 4 (some .int) :: nT
def wsX4_coinageOf : List Cond := Cond.code yX4_coinageOf cX4_coinageOf 2 (some (.object "NewCoins$Coinage")) :: nT
def wsX1_add : List Cond := Cond.code yX1_add cX1_add 2 (some .int) :: nT
def wsX6_within : List Cond := Cond.code yX6_within cX6_within 3 (some .boolean) :: nT
def wsX1_isValue : List Cond := Cond.code yX1_isValue cX1_isValue 3 (some .boolean) :: nT
def wsX1_rank : List Cond := Cond.code yX1_rank cX1_rank 3 (none : Option Jvm.ClassFile.FieldType) :: nT
def wsX1_improve : List Cond := Cond.code yX1_improve cX1_improve 4 (none : Option Jvm.ClassFile.FieldType) :: nT
def wsX6_rate : List Cond := Cond.code yX6_rate cX6_rate 3 (some .boolean) :: nT
def wsX4_hasSold : List Cond := Cond.code yX4_hasSold cX4_hasSold 2 (some .boolean) :: nT
def wsX6_good : List Cond := Cond.code yX6_good cX6_good 3 (some .int) :: nT
def wsX3_add : List Cond := Cond.code yX3_add cX3_add 3 (some .int) :: nT
def wsX6_sold : List Cond := Cond.code yX6_sold cX6_sold 3 (some .boolean) :: nT
def wsX3_isGood : List Cond := Cond.code yX3_isGood cX3_isGood 2 (some .boolean) :: nT
def wsX6_step : List Cond := Cond.code yX6_step cX6_step 2 (some .boolean) :: nT
def wsX6_price : List Cond := Cond.code yX6_price cX6_price 3 (some .int) :: nT
def wsX6_isRule : List Cond := Cond.code yX6_isRule cX6_isRule 1 (some .boolean) :: nT
def wsX4_newPrice : List Cond := Cond.code yX4_newPrice cX4_newPrice 7 (some .int) :: nT
def wsX6_wholeTimes : List Cond := Cond.code yX6_wholeTimes cX6_wholeTimes 2 (some .int) :: nT
def wsX4_roundsUp : List Cond := Cond.code yX4_roundsUp cX4_roundsUp 4 (some .boolean) :: nT
def wsX6_gain : List Cond := Cond.code yX6_gain cX6_gain 5 (some .long) :: nT
def wsX4_gainOf : List Cond := Cond.code yX4_gainOf cX4_gainOf 5 (some .long) :: nT
def wsX6_fairest : List Cond := Cond.code yX6_fairest cX6_fairest 9 (some .int) :: nT
def wsX6_startOfWays : List Cond := Cond.code yX6_startOfWays cX6_startOfWays 10 (some .long) :: nT
def wsJ9_abs_067f4 : List Cond := Cond.code yJ9_abs_067f4 cJ9_abs_067f4 2 (some .long) :: nT
def wsJ6_bitCount_0f7a4 : List Cond := Cond.code yJ6_bitCount_0f7a4 cJ6_bitCount_0f7a4 1 (some .int) :: nT
def wsX6_gains : List Cond := Cond.code yX6_gains cX6_gains 6 (some .long) :: nT
def wsX6_fewest : List Cond := Cond.code yX6_fewest cX6_fewest 5 (some .int) :: nT
def wsX1_hasFewest : List Cond := Cond.code yX1_hasFewest cX1_hasFewest 2 (some .boolean) :: nT
def wsX6_isSum : List Cond := Cond.code yX6_isSum cX6_isSum 1 (some .boolean) :: nT
def wsX1_isCoin : List Cond := Cond.code yX1_isCoin cX1_isCoin 2 (some .boolean) :: nT
def wsX1_writeFewest : List Cond := Cond.code yX1_writeFewest cX1_writeFewest 8 (none : Option Jvm.ClassFile.FieldType) :: nT
def wsX6_greedy : List Cond := Cond.code yX6_greedy cX6_greedy 4 (some .int) :: nT
def wsX1_countGreedily : List Cond := Cond.code yX1_countGreedily cX1_countGreedily 7 (some .int) :: nT
def wsX6_odd : List Cond := Cond.code yX6_odd cX6_odd 3 (some .int) :: nT
def wsX1_leastOdd : List Cond := Cond.code yX1_leastOdd cX1_leastOdd 2 (some .int) :: nT
def wsX6_till : List Cond := Cond.code yX6_till cX6_till 1 (some .int) :: nT
def wsX6_put : List Cond := Cond.code yX6_put cX6_put 9 (some .int) :: nT
def wsX4_tillAt : List Cond := Cond.code yX4_tillAt cX4_tillAt 2 (some (.object "NewCoins$Till")) :: nT
def wsX4_isCoin : List Cond := Cond.code yX4_isCoin cX4_isCoin 4 (some .boolean) :: nT
def wsX5_countsOf : List Cond := Cond.code yX5_countsOf cX5_countsOf 2 (some (.array .int)) :: nT
def wsX6_sale : List Cond := Cond.code yX6_sale cX6_sale 10 (some .int) :: nT
def wsX4_isSale : List Cond := Cond.code yX4_isSale cX4_isSale 5 (some .boolean) :: nT
def wsX4_spareParts : List Cond := Cond.code yX4_spareParts cX4_spareParts 6 (some .int) :: nT
def wsX4_unitParts : List Cond := Cond.code yX4_unitParts cX4_unitParts 2 (some .int) :: nT
def wsX0_make : List Cond := Cond.code yX0_make cX0_make 7 (some .boolean) :: nT
def wsX0_allow : List Cond := Cond.code yX0_allow cX0_allow 6 (none : Option Jvm.ClassFile.FieldType) :: nT
def wsX0_slide : List Cond := Cond.code yX0_slide cX0_slide 12 (none : Option Jvm.ClassFile.FieldType) :: nT
def wsX0_writeRow : List Cond := Cond.code yX0_writeRow cX0_writeRow 9 (none : Option Jvm.ClassFile.FieldType) :: nT
def wsJ9_min_7cf53 : List Cond := Cond.code yJ9_min_7cf53 cJ9_min_7cf53 2 (some .int) :: nT
def wsX0_leadsOn : List Cond := Cond.code yX0_leadsOn cX0_leadsOn 5 (some .boolean) :: nT
def wsX5_close : List Cond := Cond.code yX5_close cX5_close 5 (none : Option Jvm.ClassFile.FieldType) :: nT
def wsX6_given : List Cond := Cond.code yX6_given cX6_given 4 (some .int) :: nT
def wsX6_tell : List Cond := Cond.code yX6_tell cX6_tell 4 (some .long) :: nT
def wsX4_partsOf : List Cond := Cond.code yX4_partsOf cX4_partsOf 7 (some .long) :: nT
def wsX6_has : List Cond := Cond.code yX6_has cX6_has 5 (some .int) :: nT
def wsX6_draw : List Cond := Cond.code yX6_draw cX6_draw 6 (some .long) :: nT
def wsX6_drawn : List Cond := Cond.code yX6_drawn cX6_drawn 2 (some .int) :: nT
def wsX6_expect : List Cond := Cond.code yX6_expect cX6_expect 7 (some .int) :: nT
def wsX2_add : List Cond := Cond.code yX2_add cX2_add 5 (some .int) :: nT
def wsX6_forget : List Cond := Cond.code yX6_forget cX6_forget 3 (some .boolean) :: nT
def wsX6_wanted : List Cond := Cond.code yX6_wanted cX6_wanted 4 (some .int) :: nT
def wsX6_mostLacking : List Cond := Cond.code yX6_mostLacking cX6_mostLacking 9 (some .int) :: nT
def wsJ9_max_7cf53 : List Cond := Cond.code yJ9_max_7cf53 cJ9_max_7cf53 2 (some .int) :: nT
def wsX6_about : List Cond := Cond.code yX6_about cX6_about 4 (some .int) :: nT
def wsX4_detail : List Cond := Cond.code yX4_detail cX4_detail 2 (some .int) :: nT
def wsX4_goodDetail : List Cond := Cond.code yX4_goodDetail cX4_goodDetail 2 (some .int) :: nT
def wsX1_detail : List Cond := Cond.code yX1_detail cX1_detail 2 (some .int) :: nT
def wsX6_image : List Cond := Cond.code yX6_image cX6_image 2 (some .boolean) :: nT
def wsX4_copyFrom : List Cond := Cond.code yX4_copyFrom cX4_copyFrom 3 (none : Option Jvm.ClassFile.FieldType) :: nT
def wsX1_copyFrom : List Cond := Cond.code yX1_copyFrom cX1_copyFrom 2 (none : Option Jvm.ClassFile.FieldType) :: nT
def wsX3_copyFrom : List Cond := Cond.code yX3_copyFrom cX3_copyFrom 2 (none : Option Jvm.ClassFile.FieldType) :: nT
def wsX5_copyFrom : List Cond := Cond.code yX5_copyFrom cX5_copyFrom 2 (none : Option Jvm.ClassFile.FieldType) :: nT
def wsX2_copyFrom : List Cond := Cond.code yX2_copyFrom cX2_copyFrom 2 (none : Option Jvm.ClassFile.FieldType) :: nT
def wsX6_again : List Cond := Cond.code yX6_again cX6_again 2 (some .boolean) :: nT
def wsX7_init : List Cond := Cond.code yX7_init cX7_init 1 (none : Option Jvm.ClassFile.FieldType) :: nT
def wsX7_coin : List Cond := Cond.code yX7_coin cX7_coin 4 (some .int) :: nT
def wsX7_in : List Cond := Cond.code yX7_in cX7_in 3 (some .boolean) :: nT
def wsX7_rate : List Cond := Cond.code yX7_rate cX7_rate 3 (some .boolean) :: nT
def wsX7_good : List Cond := Cond.code yX7_good cX7_good 3 (some .int) :: nT
def wsX7_sold : List Cond := Cond.code yX7_sold cX7_sold 3 (some .boolean) :: nT
def wsX7_isGood : List Cond := Cond.code yX7_isGood cX7_isGood 2 (some .boolean) :: nT
def wsX7_step : List Cond := Cond.code yX7_step cX7_step 2 (some .boolean) :: nT
def wsX7_price : List Cond := Cond.code yX7_price cX7_price 3 (some .int) :: nT
def wsX7_priceOf : List Cond := Cond.code yX7_priceOf cX7_priceOf 9 (some .int) :: nT
def wsX7_gain : List Cond := Cond.code yX7_gain cX7_gain 5 (some .long) :: nT
def wsX7_gainOf : List Cond := Cond.code yX7_gainOf cX7_gainOf 3 (some .long) :: nT
def wsX7_fairest : List Cond := Cond.code yX7_fairest cX7_fairest 8 (some .int) :: nT
def wsX7_gains : List Cond := Cond.code yX7_gains cX7_gains 5 (some .long) :: nT
def wsX7_fewest : List Cond := Cond.code yX7_fewest cX7_fewest 5 (some .int) :: nT
def wsX7_isCoin : List Cond := Cond.code yX7_isCoin cX7_isCoin 3 (some .boolean) :: nT
def wsX7_noBounds : List Cond := Cond.code yX7_noBounds cX7_noBounds 2 (none : Option Jvm.ClassFile.FieldType) :: nT
def wsX7_find : List Cond := Cond.code yX7_find cX7_find 11 (some .int) :: nT
def wsX7_sortCoins : List Cond := Cond.code yX7_sortCoins cX7_sortCoins 4 (none : Option Jvm.ClassFile.FieldType) :: nT
def wsX7_greedy : List Cond := Cond.code yX7_greedy cX7_greedy 3 (some .int) :: nT
def wsX7_greedyOf : List Cond := Cond.code yX7_greedyOf cX7_greedyOf 7 (some .int) :: nT
def wsX7_odd : List Cond := Cond.code yX7_odd cX7_odd 5 (some .int) :: nT
def wsX7_till : List Cond := Cond.code yX7_till cX7_till 3 (some .int) :: nT
def wsX7_cell : List Cond := Cond.code yX7_cell cX7_cell 3 (some .int) :: nT
def wsX7_put : List Cond := Cond.code yX7_put cX7_put 6 (some .int) :: nT
def wsX7_isTill : List Cond := Cond.code yX7_isTill cX7_isTill 2 (some .boolean) :: nT
def wsX7_sale : List Cond := Cond.code yX7_sale cX7_sale 11 (some .int) :: nT
def wsX7_isSale : List Cond := Cond.code yX7_isSale cX7_isSale 6 (some .boolean) :: nT
def wsX7_over : List Cond := Cond.code yX7_over cX7_over 5 (some .int) :: nT
def wsX7_given : List Cond := Cond.code yX7_given cX7_given 3 (some .int) :: nT
def wsX7_tell : List Cond := Cond.code yX7_tell cX7_tell 3 (some .long) :: nT
def wsX7_parts : List Cond := Cond.code yX7_parts cX7_parts 6 (some .long) :: nT
def wsX7_has : List Cond := Cond.code yX7_has cX7_has 4 (some .int) :: nT
def wsX7_draw : List Cond := Cond.code yX7_draw cX7_draw 5 (some .long) :: nT
def wsX7_drawn : List Cond := Cond.code yX7_drawn cX7_drawn 2 (some .int) :: nT
def wsX7_expect : List Cond := Cond.code yX7_expect cX7_expect 7 (some .int) :: nT
def wsX7_forget : List Cond := Cond.code yX7_forget cX7_forget 2 (some .boolean) :: nT
def wsX7_wanted : List Cond := Cond.code yX7_wanted cX7_wanted 3 (some .int) :: nT
def wsX7_findWanted : List Cond := Cond.code yX7_findWanted cX7_findWanted 8 (some .boolean) :: nT
def wsX7_about : List Cond := Cond.code yX7_about cX7_about 3 (some .int) :: nT
def wsX7_image : List Cond := Cond.code yX7_image cX7_image 2 (some .boolean) :: nT
def wsX7_copy : List Cond := Cond.code yX7_copy cX7_copy 4 (none : Option Jvm.ClassFile.FieldType) :: nT
def wsX7_move : List Cond := Cond.code yX7_move cX7_move 5 (none : Option Jvm.ClassFile.FieldType) :: nT
def wsX7_again : List Cond := Cond.code yX7_again cX7_again 2 (some .boolean) :: nT
theorem nT_V {cx cy : Cond} {own C : String} {idx : Nat} {y : MethodName} (h1 : Cond.methodLink own idx y ∈ nT) (h2 : Cond.instanceMethod y ∈ nT) (h3 : Cond.selects C y y ∈ nT) (h4 : Cond.initialized C ∈ nT) (h5 : cy ∈ nT) : GoodIn (cx :: nT) (wsV own idx C y (cy :: nT)) := by
  intro w hw
  have h : w ∈ nT := by
    rcases List.mem_append.mp hw with h | h
    · simp only [List.mem_cons, List.not_mem_nil, or_false] at h
      rcases h with rfl | rfl | rfl | rfl
      · exact h1
      · exact h2
      · exact h3
      · exact h4
    · rcases List.mem_cons.mp h with rfl | h
      · exact h5
      · exact h
  exact ⟨List.mem_cons_of_mem _ h, good_of_word (nT_g h)⟩
theorem nT_S {cx cy : Cond} {own : String} {idx : Nat} {y : MethodName} (h1 : Cond.methodLink own idx y ∈ nT) (h2 : Cond.static y ∈ nT) (h4 : Cond.initialized y.cls ∈ nT) (h5 : cy ∈ nT) : GoodIn (cx :: nT) (va_wsS own idx y (cy :: nT)) := by
  intro w hw
  have h : w ∈ nT := by
    rcases List.mem_append.mp hw with h | h
    · simp only [List.mem_cons, List.not_mem_nil, or_false] at h
      rcases h with rfl | rfl | rfl
      · exact h1
      · exact h2
      · exact h4
    · rcases List.mem_cons.mp h with rfl | h
      · exact h5
      · exact h
  exact ⟨List.mem_cons_of_mem _ h, good_of_word (nT_g h)⟩
theorem nT_N {cx cy : Cond} (h5 : cy ∈ nT) : GoodIn (cx :: nT) (cy :: nT) := by
  intro w hw
  have h : w ∈ nT := by
    rcases List.mem_cons.mp hw with rfl | h
    · exact h5
    · exact h
  exact ⟨List.mem_cons_of_mem _ h, good_of_word (nT_g h)⟩
theorem nT_m {cx w : Cond} (h : w ∈ nT) : w ∈ cx :: nT := List.mem_cons_of_mem _ h
end
section
theorem dX0_init_0 : decode cX0_init 0 = .ok (.aload_n 0, 1) := by decide +kernel
theorem dX0_init_1 : decode cX0_init 1 = .ok (.invokespecial 3, 3) := by decide +kernel
theorem dX0_init_4 : decode cX0_init 4 = .ok (.aload_n 0, 1) := by decide +kernel
theorem dX0_init_5 : decode cX0_init 5 = .ok (.bipush 8, 2) := by decide +kernel
theorem dX0_init_7 : decode cX0_init 7 = .ok (.newarray .int, 2) := by decide +kernel
theorem dX0_init_9 : decode cX0_init 9 = .ok (.putfield 9, 3) := by decide +kernel
theorem dX0_init_12 : decode cX0_init 12 = .ok (.aload_n 0, 1) := by decide +kernel
theorem dX0_init_13 : decode cX0_init 13 = .ok (.bipush 9, 2) := by decide +kernel
theorem dX0_init_15 : decode cX0_init 15 = .ok (.sipush 2001, 3) := by decide +kernel
theorem dX0_init_18 : decode cX0_init 18 = .ok (.multianewarray 15 2, 4) := by decide +kernel
theorem dX0_init_22 : decode cX0_init 22 = .ok (.putfield 17, 3) := by decide +kernel
theorem dX0_init_25 : decode cX0_init 25 = .ok (.aload_n 0, 1) := by decide +kernel
theorem dX0_init_26 : decode cX0_init 26 = .ok (.sipush 2001, 3) := by decide +kernel
theorem dX0_init_29 : decode cX0_init 29 = .ok (.newarray .int, 2) := by decide +kernel
theorem dX0_init_31 : decode cX0_init 31 = .ok (.putfield 20, 3) := by decide +kernel
theorem dX0_init_34 : decode cX0_init 34 = .ok (.aload_n 0, 1) := by decide +kernel
theorem dX0_init_35 : decode cX0_init 35 = .ok (.sipush 2001, 3) := by decide +kernel
theorem dX0_init_38 : decode cX0_init 38 = .ok (.newarray .int, 2) := by decide +kernel
theorem dX0_init_40 : decode cX0_init 40 = .ok (.putfield 23, 3) := by decide +kernel
theorem dX0_init_43 : decode cX0_init 43 = .ok (.return_, 1) := by decide +kernel
theorem dX0_make_0 : decode cX0_make 0 = .ok (.iload_n 3, 1) := by decide +kernel
theorem dX0_make_1 : decode cX0_make 1 = .ok (.invokestatic 26, 3) := by decide +kernel
theorem dX0_make_4 : decode cX0_make 4 = .ok (.ifCond .ne 5, 3) := by decide +kernel
theorem dX0_make_7 : decode cX0_make 7 = .ok (.iconst 0, 1) := by decide +kernel
theorem dX0_make_8 : decode cX0_make 8 = .ok (.ireturn, 1) := by decide +kernel
theorem dX0_make_9 : decode cX0_make 9 = .ok (.aload_n 0, 1) := by decide +kernel
theorem dX0_make_10 : decode cX0_make 10 = .ok (.getfield 17, 3) := by decide +kernel
theorem dX0_make_13 : decode cX0_make 13 = .ok (.iconst 0, 1) := by decide +kernel
theorem dX0_make_14 : decode cX0_make 14 = .ok (.aaload, 1) := by decide +kernel
theorem dX0_make_15 : decode cX0_make 15 = .ok (.iconst (-1), 1) := by decide +kernel
theorem dX0_make_16 : decode cX0_make 16 = .ok (.invokestatic 30, 3) := by decide +kernel
theorem dX0_make_19 : decode cX0_make 19 = .ok (.aload_n 0, 1) := by decide +kernel
theorem dX0_make_20 : decode cX0_make 20 = .ok (.getfield 17, 3) := by decide +kernel
theorem dX0_make_23 : decode cX0_make 23 = .ok (.iconst 0, 1) := by decide +kernel
theorem dX0_make_24 : decode cX0_make 24 = .ok (.aaload, 1) := by decide +kernel
theorem dX0_make_25 : decode cX0_make 25 = .ok (.iconst 0, 1) := by decide +kernel
theorem dX0_make_26 : decode cX0_make 26 = .ok (.iconst 0, 1) := by decide +kernel
theorem dX0_make_27 : decode cX0_make 27 = .ok (.iastore, 1) := by decide +kernel
theorem dX0_make_28 : decode cX0_make 28 = .ok (.aload_n 1, 1) := by decide +kernel
theorem dX0_make_29 : decode cX0_make 29 = .ok (.getfield 36, 3) := by decide +kernel
theorem dX0_make_32 : decode cX0_make 32 = .ok (.istore 4, 2) := by decide +kernel
theorem dX0_make_34 : decode cX0_make 34 = .ok (.iconst 0, 1) := by decide +kernel
theorem dX0_make_35 : decode cX0_make 35 = .ok (.istore 5, 2) := by decide +kernel
theorem dX0_make_37 : decode cX0_make 37 = .ok (.iload 5, 2) := by decide +kernel
theorem dX0_make_39 : decode cX0_make 39 = .ok (.iload 4, 2) := by decide +kernel
theorem dX0_make_41 : decode cX0_make 41 = .ok (.if_icmp .ge 41, 3) := by decide +kernel
theorem dX0_make_44 : decode cX0_make 44 = .ok (.aload_n 1, 1) := by decide +kernel
theorem dX0_make_45 : decode cX0_make 45 = .ok (.getfield 42, 3) := by decide +kernel
theorem dX0_make_48 : decode cX0_make 48 = .ok (.iload 4, 2) := by decide +kernel
theorem dX0_make_50 : decode cX0_make 50 = .ok (.iconst 1, 1) := by decide +kernel
theorem dX0_make_51 : decode cX0_make 51 = .ok (.isub, 1) := by decide +kernel
theorem dX0_make_52 : decode cX0_make 52 = .ok (.iload 5, 2) := by decide +kernel
theorem dX0_make_54 : decode cX0_make 54 = .ok (.isub, 1) := by decide +kernel
theorem dX0_make_55 : decode cX0_make 55 = .ok (.iaload, 1) := by decide +kernel
theorem dX0_make_56 : decode cX0_make 56 = .ok (.istore 6, 2) := by decide +kernel
theorem dX0_make_58 : decode cX0_make 58 = .ok (.aload_n 0, 1) := by decide +kernel
theorem dX0_make_59 : decode cX0_make 59 = .ok (.iload 5, 2) := by decide +kernel
theorem dX0_make_61 : decode cX0_make 61 = .ok (.aload_n 1, 1) := by decide +kernel
theorem dX0_make_62 : decode cX0_make 62 = .ok (.getfield 45, 3) := by decide +kernel
theorem dX0_make_65 : decode cX0_make 65 = .ok (.iload 6, 2) := by decide +kernel
theorem dX0_make_67 : decode cX0_make 67 = .ok (.iaload, 1) := by decide +kernel
theorem dX0_make_68 : decode cX0_make 68 = .ok (.aload_n 2, 1) := by decide +kernel
theorem dX0_make_69 : decode cX0_make 69 = .ok (.iload 6, 2) := by decide +kernel
theorem dX0_make_71 : decode cX0_make 71 = .ok (.iaload, 1) := by decide +kernel
theorem dX0_make_72 : decode cX0_make 72 = .ok (.iload_n 3, 1) := by decide +kernel
theorem dX0_make_73 : decode cX0_make 73 = .ok (.invokevirtual 48, 3) := by decide +kernel
theorem dX0_make_76 : decode cX0_make 76 = .ok (.iinc 5 1, 3) := by decide +kernel
theorem dX0_make_79 : decode cX0_make 79 = .ok (.goto (-42), 3) := by decide +kernel
theorem dX0_make_82 : decode cX0_make 82 = .ok (.aload_n 0, 1) := by decide +kernel
theorem dX0_make_83 : decode cX0_make 83 = .ok (.getfield 17, 3) := by decide +kernel
theorem dX0_make_86 : decode cX0_make 86 = .ok (.iload 4, 2) := by decide +kernel
theorem dX0_make_88 : decode cX0_make 88 = .ok (.aaload, 1) := by decide +kernel
theorem dX0_make_89 : decode cX0_make 89 = .ok (.iload_n 3, 1) := by decide +kernel
theorem dX0_make_90 : decode cX0_make 90 = .ok (.iaload, 1) := by decide +kernel
theorem dX0_make_91 : decode cX0_make 91 = .ok (.iconst (-1), 1) := by decide +kernel
theorem dX0_make_92 : decode cX0_make 92 = .ok (.if_icmp .ne 5, 3) := by decide +kernel
theorem dX0_make_95 : decode cX0_make 95 = .ok (.iconst 0, 1) := by decide +kernel
theorem dX0_make_96 : decode cX0_make 96 = .ok (.ireturn, 1) := by decide +kernel
theorem dX0_make_97 : decode cX0_make 97 = .ok (.aload_n 0, 1) := by decide +kernel
theorem dX0_make_98 : decode cX0_make 98 = .ok (.aload_n 1, 1) := by decide +kernel
theorem dX0_make_99 : decode cX0_make 99 = .ok (.aload_n 2, 1) := by decide +kernel
theorem dX0_make_100 : decode cX0_make 100 = .ok (.iload_n 3, 1) := by decide +kernel
theorem dX0_make_101 : decode cX0_make 101 = .ok (.invokevirtual 52, 3) := by decide +kernel
theorem dX0_make_104 : decode cX0_make 104 = .ok (.iconst 1, 1) := by decide +kernel
theorem dX0_make_105 : decode cX0_make 105 = .ok (.ireturn, 1) := by decide +kernel
theorem dX0_allow_0 : decode cX0_allow 0 = .ok (.iconst 0, 1) := by decide +kernel
theorem dX0_allow_1 : decode cX0_allow 1 = .ok (.istore 5, 2) := by decide +kernel
theorem dX0_allow_3 : decode cX0_allow 3 = .ok (.iload 5, 2) := by decide +kernel
theorem dX0_allow_5 : decode cX0_allow 5 = .ok (.iload_n 2, 1) := by decide +kernel
theorem dX0_allow_6 : decode cX0_allow 6 = .ok (.if_icmp .ge 40, 3) := by decide +kernel
theorem dX0_allow_9 : decode cX0_allow 9 = .ok (.iload 5, 2) := by decide +kernel
theorem dX0_allow_11 : decode cX0_allow 11 = .ok (.iload 4, 2) := by decide +kernel
theorem dX0_allow_13 : decode cX0_allow 13 = .ok (.if_icmp .gt 33, 3) := by decide +kernel
theorem dX0_allow_16 : decode cX0_allow 16 = .ok (.aload_n 0, 1) := by decide +kernel
theorem dX0_allow_17 : decode cX0_allow 17 = .ok (.aload_n 0, 1) := by decide +kernel
theorem dX0_allow_18 : decode cX0_allow 18 = .ok (.getfield 17, 3) := by decide +kernel
theorem dX0_allow_21 : decode cX0_allow 21 = .ok (.iload_n 1, 1) := by decide +kernel
theorem dX0_allow_22 : decode cX0_allow 22 = .ok (.aaload, 1) := by decide +kernel
theorem dX0_allow_23 : decode cX0_allow 23 = .ok (.aload_n 0, 1) := by decide +kernel
theorem dX0_allow_24 : decode cX0_allow 24 = .ok (.getfield 17, 3) := by decide +kernel
theorem dX0_allow_27 : decode cX0_allow 27 = .ok (.iload_n 1, 1) := by decide +kernel
theorem dX0_allow_28 : decode cX0_allow 28 = .ok (.iconst 1, 1) := by decide +kernel
theorem dX0_allow_29 : decode cX0_allow 29 = .ok (.iadd, 1) := by decide +kernel
theorem dX0_allow_30 : decode cX0_allow 30 = .ok (.aaload, 1) := by decide +kernel
theorem dX0_allow_31 : decode cX0_allow 31 = .ok (.iload 5, 2) := by decide +kernel
theorem dX0_allow_33 : decode cX0_allow 33 = .ok (.iload_n 2, 1) := by decide +kernel
theorem dX0_allow_34 : decode cX0_allow 34 = .ok (.iload_n 3, 1) := by decide +kernel
theorem dX0_allow_35 : decode cX0_allow 35 = .ok (.iload 4, 2) := by decide +kernel
theorem dX0_allow_37 : decode cX0_allow 37 = .ok (.invokevirtual 56, 3) := by decide +kernel
theorem dX0_allow_40 : decode cX0_allow 40 = .ok (.iinc 5 1, 3) := by decide +kernel
theorem dX0_allow_43 : decode cX0_allow 43 = .ok (.goto (-40), 3) := by decide +kernel
theorem dX0_allow_46 : decode cX0_allow 46 = .ok (.return_, 1) := by decide +kernel
theorem dX0_slide_0 : decode cX0_slide 0 = .ok (.iconst 0, 1) := by decide +kernel
theorem dX0_slide_1 : decode cX0_slide 1 = .ok (.istore 7, 2) := by decide +kernel
theorem dX0_slide_3 : decode cX0_slide 3 = .ok (.iconst 0, 1) := by decide +kernel
theorem dX0_slide_4 : decode cX0_slide 4 = .ok (.istore 8, 2) := by decide +kernel
theorem dX0_slide_6 : decode cX0_slide 6 = .ok (.iconst 0, 1) := by decide +kernel
theorem dX0_slide_7 : decode cX0_slide 7 = .ok (.istore 9, 2) := by decide +kernel
theorem dX0_slide_9 : decode cX0_slide 9 = .ok (.iload_n 3, 1) := by decide +kernel
theorem dX0_slide_10 : decode cX0_slide 10 = .ok (.istore 10, 2) := by decide +kernel
theorem dX0_slide_12 : decode cX0_slide 12 = .ok (.iload 10, 2) := by decide +kernel
theorem dX0_slide_14 : decode cX0_slide 14 = .ok (.iload 6, 2) := by decide +kernel
theorem dX0_slide_16 : decode cX0_slide 16 = .ok (.if_icmp .gt 131, 3) := by decide +kernel
theorem dX0_slide_19 : decode cX0_slide 19 = .ok (.aload_n 1, 1) := by decide +kernel
theorem dX0_slide_20 : decode cX0_slide 20 = .ok (.iload 10, 2) := by decide +kernel
theorem dX0_slide_22 : decode cX0_slide 22 = .ok (.iaload, 1) := by decide +kernel
theorem dX0_slide_23 : decode cX0_slide 23 = .ok (.iconst (-1), 1) := by decide +kernel
theorem dX0_slide_24 : decode cX0_slide 24 = .ok (.if_icmp .eq 60, 3) := by decide +kernel
theorem dX0_slide_27 : decode cX0_slide 27 = .ok (.aload_n 1, 1) := by decide +kernel
theorem dX0_slide_28 : decode cX0_slide 28 = .ok (.iload 10, 2) := by decide +kernel
theorem dX0_slide_30 : decode cX0_slide 30 = .ok (.iaload, 1) := by decide +kernel
theorem dX0_slide_31 : decode cX0_slide 31 = .ok (.iload 9, 2) := by decide +kernel
theorem dX0_slide_33 : decode cX0_slide 33 = .ok (.isub, 1) := by decide +kernel
theorem dX0_slide_34 : decode cX0_slide 34 = .ok (.istore 11, 2) := by decide +kernel
theorem dX0_slide_36 : decode cX0_slide 36 = .ok (.iload 8, 2) := by decide +kernel
theorem dX0_slide_38 : decode cX0_slide 38 = .ok (.iload 7, 2) := by decide +kernel
theorem dX0_slide_40 : decode cX0_slide 40 = .ok (.if_icmp .le 23, 3) := by decide +kernel
theorem dX0_slide_43 : decode cX0_slide 43 = .ok (.aload_n 0, 1) := by decide +kernel
theorem dX0_slide_44 : decode cX0_slide 44 = .ok (.getfield 23, 3) := by decide +kernel
theorem dX0_slide_47 : decode cX0_slide 47 = .ok (.iload 8, 2) := by decide +kernel
theorem dX0_slide_49 : decode cX0_slide 49 = .ok (.iconst 1, 1) := by decide +kernel
theorem dX0_slide_50 : decode cX0_slide 50 = .ok (.isub, 1) := by decide +kernel
theorem dX0_slide_51 : decode cX0_slide 51 = .ok (.iaload, 1) := by decide +kernel
theorem dX0_slide_52 : decode cX0_slide 52 = .ok (.iload 11, 2) := by decide +kernel
theorem dX0_slide_54 : decode cX0_slide 54 = .ok (.if_icmp .lt 9, 3) := by decide +kernel
theorem dX0_slide_57 : decode cX0_slide 57 = .ok (.iinc 8 (-1), 3) := by decide +kernel
theorem dX0_slide_60 : decode cX0_slide 60 = .ok (.goto (-24), 3) := by decide +kernel
theorem dX0_slide_63 : decode cX0_slide 63 = .ok (.aload_n 0, 1) := by decide +kernel
theorem dX0_slide_64 : decode cX0_slide 64 = .ok (.getfield 20, 3) := by decide +kernel
theorem dX0_slide_67 : decode cX0_slide 67 = .ok (.iload 8, 2) := by decide +kernel
theorem dX0_slide_69 : decode cX0_slide 69 = .ok (.iload 9, 2) := by decide +kernel
theorem dX0_slide_71 : decode cX0_slide 71 = .ok (.iastore, 1) := by decide +kernel
theorem dX0_slide_72 : decode cX0_slide 72 = .ok (.aload_n 0, 1) := by decide +kernel
theorem dX0_slide_73 : decode cX0_slide 73 = .ok (.getfield 23, 3) := by decide +kernel
theorem dX0_slide_76 : decode cX0_slide 76 = .ok (.iload 8, 2) := by decide +kernel
theorem dX0_slide_78 : decode cX0_slide 78 = .ok (.iload 11, 2) := by decide +kernel
theorem dX0_slide_80 : decode cX0_slide 80 = .ok (.iastore, 1) := by decide +kernel
theorem dX0_slide_81 : decode cX0_slide 81 = .ok (.iinc 8 1, 3) := by decide +kernel
theorem dX0_slide_84 : decode cX0_slide 84 = .ok (.iload 7, 2) := by decide +kernel
theorem dX0_slide_86 : decode cX0_slide 86 = .ok (.iload 8, 2) := by decide +kernel
theorem dX0_slide_88 : decode cX0_slide 88 = .ok (.if_icmp .ge 21, 3) := by decide +kernel
theorem dX0_slide_91 : decode cX0_slide 91 = .ok (.aload_n 0, 1) := by decide +kernel
theorem dX0_slide_92 : decode cX0_slide 92 = .ok (.getfield 20, 3) := by decide +kernel
theorem dX0_slide_95 : decode cX0_slide 95 = .ok (.iload 7, 2) := by decide +kernel
theorem dX0_slide_97 : decode cX0_slide 97 = .ok (.iaload, 1) := by decide +kernel
theorem dX0_slide_98 : decode cX0_slide 98 = .ok (.iload 9, 2) := by decide +kernel
theorem dX0_slide_100 : decode cX0_slide 100 = .ok (.iload 5, 2) := by decide +kernel
theorem dX0_slide_102 : decode cX0_slide 102 = .ok (.isub, 1) := by decide +kernel
theorem dX0_slide_103 : decode cX0_slide 103 = .ok (.if_icmp .ge 6, 3) := by decide +kernel
theorem dX0_slide_106 : decode cX0_slide 106 = .ok (.iinc 7 1, 3) := by decide +kernel
theorem dX0_slide_109 : decode cX0_slide 109 = .ok (.aload_n 2, 1) := by decide +kernel
theorem dX0_slide_110 : decode cX0_slide 110 = .ok (.iload 10, 2) := by decide +kernel
theorem dX0_slide_112 : decode cX0_slide 112 = .ok (.iload 7, 2) := by decide +kernel
theorem dX0_slide_114 : decode cX0_slide 114 = .ok (.iload 8, 2) := by decide +kernel
theorem dX0_slide_116 : decode cX0_slide 116 = .ok (.if_icmp .ge 16, 3) := by decide +kernel
theorem dX0_slide_119 : decode cX0_slide 119 = .ok (.aload_n 0, 1) := by decide +kernel
theorem dX0_slide_120 : decode cX0_slide 120 = .ok (.getfield 23, 3) := by decide +kernel
theorem dX0_slide_123 : decode cX0_slide 123 = .ok (.iload 7, 2) := by decide +kernel
theorem dX0_slide_125 : decode cX0_slide 125 = .ok (.iaload, 1) := by decide +kernel
theorem dX0_slide_126 : decode cX0_slide 126 = .ok (.iload 9, 2) := by decide +kernel
theorem dX0_slide_128 : decode cX0_slide 128 = .ok (.iadd, 1) := by decide +kernel
theorem dX0_slide_129 : decode cX0_slide 129 = .ok (.goto 4, 3) := by decide +kernel
theorem dX0_slide_132 : decode cX0_slide 132 = .ok (.iconst (-1), 1) := by decide +kernel
theorem dX0_slide_133 : decode cX0_slide 133 = .ok (.iastore, 1) := by decide +kernel
theorem dX0_slide_134 : decode cX0_slide 134 = .ok (.iinc 9 1, 3) := by decide +kernel
theorem dX0_slide_137 : decode cX0_slide 137 = .ok (.iload 10, 2) := by decide +kernel
theorem dX0_slide_139 : decode cX0_slide 139 = .ok (.iload 4, 2) := by decide +kernel
theorem dX0_slide_141 : decode cX0_slide 141 = .ok (.iadd, 1) := by decide +kernel
theorem dX0_slide_142 : decode cX0_slide 142 = .ok (.istore 10, 2) := by decide +kernel
theorem dX0_slide_144 : decode cX0_slide 144 = .ok (.goto (-132), 3) := by decide +kernel
theorem dX0_slide_147 : decode cX0_slide 147 = .ok (.return_, 1) := by decide +kernel
theorem dX0_writeRow_0 : decode cX0_writeRow 0 = .ok (.aload_n 0, 1) := by decide +kernel
theorem dX0_writeRow_1 : decode cX0_writeRow 1 = .ok (.getfield 9, 3) := by decide +kernel
theorem dX0_writeRow_4 : decode cX0_writeRow 4 = .ok (.iconst 0, 1) := by decide +kernel
theorem dX0_writeRow_5 : decode cX0_writeRow 5 = .ok (.invokestatic 30, 3) := by decide +kernel
theorem dX0_writeRow_8 : decode cX0_writeRow 8 = .ok (.iload_n 3, 1) := by decide +kernel
theorem dX0_writeRow_9 : decode cX0_writeRow 9 = .ok (.istore 4, 2) := by decide +kernel
theorem dX0_writeRow_11 : decode cX0_writeRow 11 = .ok (.aload_n 1, 1) := by decide +kernel
theorem dX0_writeRow_12 : decode cX0_writeRow 12 = .ok (.getfield 36, 3) := by decide +kernel
theorem dX0_writeRow_15 : decode cX0_writeRow 15 = .ok (.istore 5, 2) := by decide +kernel
theorem dX0_writeRow_17 : decode cX0_writeRow 17 = .ok (.iload 5, 2) := by decide +kernel
theorem dX0_writeRow_19 : decode cX0_writeRow 19 = .ok (.ifCond .le 99, 3) := by decide +kernel
theorem dX0_writeRow_22 : decode cX0_writeRow 22 = .ok (.aload_n 1, 1) := by decide +kernel
theorem dX0_writeRow_23 : decode cX0_writeRow 23 = .ok (.getfield 42, 3) := by decide +kernel
theorem dX0_writeRow_26 : decode cX0_writeRow 26 = .ok (.aload_n 1, 1) := by decide +kernel
theorem dX0_writeRow_27 : decode cX0_writeRow 27 = .ok (.getfield 36, 3) := by decide +kernel
theorem dX0_writeRow_30 : decode cX0_writeRow 30 = .ok (.iload 5, 2) := by decide +kernel
theorem dX0_writeRow_32 : decode cX0_writeRow 32 = .ok (.isub, 1) := by decide +kernel
theorem dX0_writeRow_33 : decode cX0_writeRow 33 = .ok (.iaload, 1) := by decide +kernel
theorem dX0_writeRow_34 : decode cX0_writeRow 34 = .ok (.istore 6, 2) := by decide +kernel
theorem dX0_writeRow_36 : decode cX0_writeRow 36 = .ok (.aload_n 1, 1) := by decide +kernel
theorem dX0_writeRow_37 : decode cX0_writeRow 37 = .ok (.getfield 45, 3) := by decide +kernel
theorem dX0_writeRow_40 : decode cX0_writeRow 40 = .ok (.iload 6, 2) := by decide +kernel
theorem dX0_writeRow_42 : decode cX0_writeRow 42 = .ok (.iaload, 1) := by decide +kernel
theorem dX0_writeRow_43 : decode cX0_writeRow 43 = .ok (.istore 7, 2) := by decide +kernel
theorem dX0_writeRow_45 : decode cX0_writeRow 45 = .ok (.aload_n 2, 1) := by decide +kernel
theorem dX0_writeRow_46 : decode cX0_writeRow 46 = .ok (.iload 6, 2) := by decide +kernel
theorem dX0_writeRow_48 : decode cX0_writeRow 48 = .ok (.iaload, 1) := by decide +kernel
theorem dX0_writeRow_49 : decode cX0_writeRow 49 = .ok (.iload 4, 2) := by decide +kernel
theorem dX0_writeRow_51 : decode cX0_writeRow 51 = .ok (.iload 7, 2) := by decide +kernel
theorem dX0_writeRow_53 : decode cX0_writeRow 53 = .ok (.invokestatic 60, 3) := by decide +kernel
theorem dX0_writeRow_56 : decode cX0_writeRow 56 = .ok (.invokestatic 64, 3) := by decide +kernel
theorem dX0_writeRow_59 : decode cX0_writeRow 59 = .ok (.istore 8, 2) := by decide +kernel
theorem dX0_writeRow_61 : decode cX0_writeRow 61 = .ok (.iload 8, 2) := by decide +kernel
theorem dX0_writeRow_63 : decode cX0_writeRow 63 = .ok (.ifCond .le 30, 3) := by decide +kernel
theorem dX0_writeRow_66 : decode cX0_writeRow 66 = .ok (.aload_n 0, 1) := by decide +kernel
theorem dX0_writeRow_67 : decode cX0_writeRow 67 = .ok (.iload 5, 2) := by decide +kernel
theorem dX0_writeRow_69 : decode cX0_writeRow 69 = .ok (.iload 4, 2) := by decide +kernel
theorem dX0_writeRow_71 : decode cX0_writeRow 71 = .ok (.iload 4, 2) := by decide +kernel
theorem dX0_writeRow_73 : decode cX0_writeRow 73 = .ok (.iload 8, 2) := by decide +kernel
theorem dX0_writeRow_75 : decode cX0_writeRow 75 = .ok (.iload 7, 2) := by decide +kernel
theorem dX0_writeRow_77 : decode cX0_writeRow 77 = .ok (.imul, 1) := by decide +kernel
theorem dX0_writeRow_78 : decode cX0_writeRow 78 = .ok (.isub, 1) := by decide +kernel
theorem dX0_writeRow_79 : decode cX0_writeRow 79 = .ok (.iload 8, 2) := by decide +kernel
theorem dX0_writeRow_81 : decode cX0_writeRow 81 = .ok (.invokevirtual 69, 3) := by decide +kernel
theorem dX0_writeRow_84 : decode cX0_writeRow 84 = .ok (.ifCond .ne 9, 3) := by decide +kernel
theorem dX0_writeRow_87 : decode cX0_writeRow 87 = .ok (.iinc 8 (-1), 3) := by decide +kernel
theorem dX0_writeRow_90 : decode cX0_writeRow 90 = .ok (.goto (-29), 3) := by decide +kernel
theorem dX0_writeRow_93 : decode cX0_writeRow 93 = .ok (.aload_n 0, 1) := by decide +kernel
theorem dX0_writeRow_94 : decode cX0_writeRow 94 = .ok (.getfield 9, 3) := by decide +kernel
theorem dX0_writeRow_97 : decode cX0_writeRow 97 = .ok (.iload 6, 2) := by decide +kernel
theorem dX0_writeRow_99 : decode cX0_writeRow 99 = .ok (.iload 8, 2) := by decide +kernel
theorem dX0_writeRow_101 : decode cX0_writeRow 101 = .ok (.iastore, 1) := by decide +kernel
theorem dX0_writeRow_102 : decode cX0_writeRow 102 = .ok (.iload 4, 2) := by decide +kernel
theorem dX0_writeRow_104 : decode cX0_writeRow 104 = .ok (.iload 8, 2) := by decide +kernel
theorem dX0_writeRow_106 : decode cX0_writeRow 106 = .ok (.iload 7, 2) := by decide +kernel
theorem dX0_writeRow_108 : decode cX0_writeRow 108 = .ok (.imul, 1) := by decide +kernel
theorem dX0_writeRow_109 : decode cX0_writeRow 109 = .ok (.isub, 1) := by decide +kernel
theorem dX0_writeRow_110 : decode cX0_writeRow 110 = .ok (.istore 4, 2) := by decide +kernel
theorem dX0_writeRow_112 : decode cX0_writeRow 112 = .ok (.iinc 5 (-1), 3) := by decide +kernel
theorem dX0_writeRow_115 : decode cX0_writeRow 115 = .ok (.goto (-98), 3) := by decide +kernel
theorem dX0_writeRow_118 : decode cX0_writeRow 118 = .ok (.return_, 1) := by decide +kernel
theorem dX0_leadsOn_0 : decode cX0_leadsOn 0 = .ok (.aload_n 0, 1) := by decide +kernel
theorem dX0_leadsOn_1 : decode cX0_leadsOn 1 = .ok (.getfield 17, 3) := by decide +kernel
theorem dX0_leadsOn_4 : decode cX0_leadsOn 4 = .ok (.iload_n 1, 1) := by decide +kernel
theorem dX0_leadsOn_5 : decode cX0_leadsOn 5 = .ok (.iconst 1, 1) := by decide +kernel
theorem dX0_leadsOn_6 : decode cX0_leadsOn 6 = .ok (.isub, 1) := by decide +kernel
theorem dX0_leadsOn_7 : decode cX0_leadsOn 7 = .ok (.aaload, 1) := by decide +kernel
theorem dX0_leadsOn_8 : decode cX0_leadsOn 8 = .ok (.iload_n 3, 1) := by decide +kernel
theorem dX0_leadsOn_9 : decode cX0_leadsOn 9 = .ok (.iaload, 1) := by decide +kernel
theorem dX0_leadsOn_10 : decode cX0_leadsOn 10 = .ok (.iconst (-1), 1) := by decide +kernel
theorem dX0_leadsOn_11 : decode cX0_leadsOn 11 = .ok (.if_icmp .eq 31, 3) := by decide +kernel
theorem dX0_leadsOn_14 : decode cX0_leadsOn 14 = .ok (.aload_n 0, 1) := by decide +kernel
theorem dX0_leadsOn_15 : decode cX0_leadsOn 15 = .ok (.getfield 17, 3) := by decide +kernel
theorem dX0_leadsOn_18 : decode cX0_leadsOn 18 = .ok (.iload_n 1, 1) := by decide +kernel
theorem dX0_leadsOn_19 : decode cX0_leadsOn 19 = .ok (.iconst 1, 1) := by decide +kernel
theorem dX0_leadsOn_20 : decode cX0_leadsOn 20 = .ok (.isub, 1) := by decide +kernel
theorem dX0_leadsOn_21 : decode cX0_leadsOn 21 = .ok (.aaload, 1) := by decide +kernel
theorem dX0_leadsOn_22 : decode cX0_leadsOn 22 = .ok (.iload_n 3, 1) := by decide +kernel
theorem dX0_leadsOn_23 : decode cX0_leadsOn 23 = .ok (.iaload, 1) := by decide +kernel
theorem dX0_leadsOn_24 : decode cX0_leadsOn 24 = .ok (.iload 4, 2) := by decide +kernel
theorem dX0_leadsOn_26 : decode cX0_leadsOn 26 = .ok (.iadd, 1) := by decide +kernel
theorem dX0_leadsOn_27 : decode cX0_leadsOn 27 = .ok (.aload_n 0, 1) := by decide +kernel
theorem dX0_leadsOn_28 : decode cX0_leadsOn 28 = .ok (.getfield 17, 3) := by decide +kernel
theorem dX0_leadsOn_31 : decode cX0_leadsOn 31 = .ok (.iload_n 1, 1) := by decide +kernel
theorem dX0_leadsOn_32 : decode cX0_leadsOn 32 = .ok (.aaload, 1) := by decide +kernel
theorem dX0_leadsOn_33 : decode cX0_leadsOn 33 = .ok (.iload_n 2, 1) := by decide +kernel
theorem dX0_leadsOn_34 : decode cX0_leadsOn 34 = .ok (.iaload, 1) := by decide +kernel
theorem dX0_leadsOn_35 : decode cX0_leadsOn 35 = .ok (.if_icmp .ne 7, 3) := by decide +kernel
theorem dX0_leadsOn_38 : decode cX0_leadsOn 38 = .ok (.iconst 1, 1) := by decide +kernel
theorem dX0_leadsOn_39 : decode cX0_leadsOn 39 = .ok (.goto 4, 3) := by decide +kernel
theorem dX0_leadsOn_42 : decode cX0_leadsOn 42 = .ok (.iconst 0, 1) := by decide +kernel
theorem dX0_leadsOn_43 : decode cX0_leadsOn 43 = .ok (.ireturn, 1) := by decide +kernel
theorem dX1_init_0 : decode cX1_init 0 = .ok (.aload_n 0, 1) := by decide +kernel
theorem dX1_init_1 : decode cX1_init 1 = .ok (.invokespecial 3, 3) := by decide +kernel
theorem dX1_init_4 : decode cX1_init 4 = .ok (.aload_n 0, 1) := by decide +kernel
theorem dX1_init_5 : decode cX1_init 5 = .ok (.iconst 0, 1) := by decide +kernel
theorem dX1_init_6 : decode cX1_init 6 = .ok (.putfield 9, 3) := by decide +kernel
theorem dX1_init_9 : decode cX1_init 9 = .ok (.aload_n 0, 1) := by decide +kernel
theorem dX1_init_10 : decode cX1_init 10 = .ok (.bipush 8, 2) := by decide +kernel
theorem dX1_init_12 : decode cX1_init 12 = .ok (.newarray .int, 2) := by decide +kernel
theorem dX1_init_14 : decode cX1_init 14 = .ok (.putfield 15, 3) := by decide +kernel
theorem dX1_init_17 : decode cX1_init 17 = .ok (.aload_n 0, 1) := by decide +kernel
theorem dX1_init_18 : decode cX1_init 18 = .ok (.bipush 8, 2) := by decide +kernel
theorem dX1_init_20 : decode cX1_init 20 = .ok (.newarray .int, 2) := by decide +kernel
theorem dX1_init_22 : decode cX1_init 22 = .ok (.putfield 19, 3) := by decide +kernel
theorem dX1_init_25 : decode cX1_init 25 = .ok (.aload_n 0, 1) := by decide +kernel
theorem dX1_init_26 : decode cX1_init 26 = .ok (.sipush 2001, 3) := by decide +kernel
theorem dX1_init_29 : decode cX1_init 29 = .ok (.newarray .int, 2) := by decide +kernel
theorem dX1_init_31 : decode cX1_init 31 = .ok (.putfield 22, 3) := by decide +kernel
theorem dX1_init_34 : decode cX1_init 34 = .ok (.aload_n 0, 1) := by decide +kernel
theorem dX1_init_35 : decode cX1_init 35 = .ok (.getfield 22, 3) := by decide +kernel
theorem dX1_init_38 : decode cX1_init 38 = .ok (.iconst (-1), 1) := by decide +kernel
theorem dX1_init_39 : decode cX1_init 39 = .ok (.invokestatic 25, 3) := by decide +kernel
theorem dX1_init_42 : decode cX1_init 42 = .ok (.aload_n 0, 1) := by decide +kernel
theorem dX1_init_43 : decode cX1_init 43 = .ok (.getfield 22, 3) := by decide +kernel
theorem dX1_init_46 : decode cX1_init 46 = .ok (.iconst 0, 1) := by decide +kernel
theorem dX1_init_47 : decode cX1_init 47 = .ok (.iconst 0, 1) := by decide +kernel
theorem dX1_init_48 : decode cX1_init 48 = .ok (.iastore, 1) := by decide +kernel
theorem dX1_init_49 : decode cX1_init 49 = .ok (.return_, 1) := by decide +kernel
theorem dX1_copyFrom_0 : decode cX1_copyFrom 0 = .ok (.aload_n 0, 1) := by decide +kernel
theorem dX1_copyFrom_1 : decode cX1_copyFrom 1 = .ok (.aload_n 1, 1) := by decide +kernel
theorem dX1_copyFrom_2 : decode cX1_copyFrom 2 = .ok (.getfield 9, 3) := by decide +kernel
theorem dX1_copyFrom_5 : decode cX1_copyFrom 5 = .ok (.putfield 9, 3) := by decide +kernel
theorem dX1_copyFrom_8 : decode cX1_copyFrom 8 = .ok (.aload_n 1, 1) := by decide +kernel
theorem dX1_copyFrom_9 : decode cX1_copyFrom 9 = .ok (.getfield 15, 3) := by decide +kernel
theorem dX1_copyFrom_12 : decode cX1_copyFrom 12 = .ok (.iconst 0, 1) := by decide +kernel
theorem dX1_copyFrom_13 : decode cX1_copyFrom 13 = .ok (.aload_n 0, 1) := by decide +kernel
theorem dX1_copyFrom_14 : decode cX1_copyFrom 14 = .ok (.getfield 15, 3) := by decide +kernel
theorem dX1_copyFrom_17 : decode cX1_copyFrom 17 = .ok (.iconst 0, 1) := by decide +kernel
theorem dX1_copyFrom_18 : decode cX1_copyFrom 18 = .ok (.bipush 8, 2) := by decide +kernel
theorem dX1_copyFrom_20 : decode cX1_copyFrom 20 = .ok (.invokestatic 31, 3) := by decide +kernel
theorem dX1_copyFrom_23 : decode cX1_copyFrom 23 = .ok (.aload_n 1, 1) := by decide +kernel
theorem dX1_copyFrom_24 : decode cX1_copyFrom 24 = .ok (.getfield 19, 3) := by decide +kernel
theorem dX1_copyFrom_27 : decode cX1_copyFrom 27 = .ok (.iconst 0, 1) := by decide +kernel
theorem dX1_copyFrom_28 : decode cX1_copyFrom 28 = .ok (.aload_n 0, 1) := by decide +kernel
theorem dX1_copyFrom_29 : decode cX1_copyFrom 29 = .ok (.getfield 19, 3) := by decide +kernel
theorem dX1_copyFrom_32 : decode cX1_copyFrom 32 = .ok (.iconst 0, 1) := by decide +kernel
theorem dX1_copyFrom_33 : decode cX1_copyFrom 33 = .ok (.bipush 8, 2) := by decide +kernel
theorem dX1_copyFrom_35 : decode cX1_copyFrom 35 = .ok (.invokestatic 31, 3) := by decide +kernel
theorem dX1_copyFrom_38 : decode cX1_copyFrom 38 = .ok (.aload_n 1, 1) := by decide +kernel
theorem dX1_copyFrom_39 : decode cX1_copyFrom 39 = .ok (.getfield 22, 3) := by decide +kernel
theorem dX1_copyFrom_42 : decode cX1_copyFrom 42 = .ok (.iconst 0, 1) := by decide +kernel
theorem dX1_copyFrom_43 : decode cX1_copyFrom 43 = .ok (.aload_n 0, 1) := by decide +kernel
theorem dX1_copyFrom_44 : decode cX1_copyFrom 44 = .ok (.getfield 22, 3) := by decide +kernel
theorem dX1_copyFrom_47 : decode cX1_copyFrom 47 = .ok (.iconst 0, 1) := by decide +kernel
theorem dX1_copyFrom_48 : decode cX1_copyFrom 48 = .ok (.sipush 2001, 3) := by decide +kernel
theorem dX1_copyFrom_51 : decode cX1_copyFrom 51 = .ok (.invokestatic 31, 3) := by decide +kernel
theorem dX1_copyFrom_54 : decode cX1_copyFrom 54 = .ok (.return_, 1) := by decide +kernel
theorem dX1_isCoin_0 : decode cX1_isCoin 0 = .ok (.iconst 0, 1) := by decide +kernel
theorem dX1_isCoin_1 : decode cX1_isCoin 1 = .ok (.iload_n 1, 1) := by decide +kernel
theorem dX1_isCoin_2 : decode cX1_isCoin 2 = .ok (.aload_n 0, 1) := by decide +kernel
theorem dX1_isCoin_3 : decode cX1_isCoin 3 = .ok (.getfield 9, 3) := by decide +kernel
theorem dX1_isCoin_6 : decode cX1_isCoin 6 = .ok (.iconst 1, 1) := by decide +kernel
theorem dX1_isCoin_7 : decode cX1_isCoin 7 = .ok (.isub, 1) := by decide +kernel
theorem dX1_isCoin_8 : decode cX1_isCoin 8 = .ok (.invokestatic 37, 3) := by decide +kernel
theorem dX1_isCoin_11 : decode cX1_isCoin 11 = .ok (.ireturn, 1) := by decide +kernel
theorem dX1_add_0 : decode cX1_add 0 = .ok (.aload_n 0, 1) := by decide +kernel
theorem dX1_add_1 : decode cX1_add 1 = .ok (.getfield 9, 3) := by decide +kernel
theorem dX1_add_4 : decode cX1_add 4 = .ok (.bipush 8, 2) := by decide +kernel
theorem dX1_add_6 : decode cX1_add 6 = .ok (.if_icmp .ge 22, 3) := by decide +kernel
theorem dX1_add_9 : decode cX1_add 9 = .ok (.iconst 1, 1) := by decide +kernel
theorem dX1_add_10 : decode cX1_add 10 = .ok (.iload_n 1, 1) := by decide +kernel
theorem dX1_add_11 : decode cX1_add 11 = .ok (.sipush 1000, 3) := by decide +kernel
theorem dX1_add_14 : decode cX1_add 14 = .ok (.invokestatic 37, 3) := by decide +kernel
theorem dX1_add_17 : decode cX1_add 17 = .ok (.ifCond .eq 11, 3) := by decide +kernel
theorem dX1_add_20 : decode cX1_add 20 = .ok (.aload_n 0, 1) := by decide +kernel
theorem dX1_add_21 : decode cX1_add 21 = .ok (.iload_n 1, 1) := by decide +kernel
theorem dX1_add_22 : decode cX1_add 22 = .ok (.invokevirtual 41, 3) := by decide +kernel
theorem dX1_add_25 : decode cX1_add 25 = .ok (.ifCond .eq 5, 3) := by decide +kernel
theorem dX1_add_28 : decode cX1_add 28 = .ok (.iconst (-1), 1) := by decide +kernel
theorem dX1_add_29 : decode cX1_add 29 = .ok (.ireturn, 1) := by decide +kernel
theorem dX1_add_30 : decode cX1_add 30 = .ok (.aload_n 0, 1) := by decide +kernel
theorem dX1_add_31 : decode cX1_add 31 = .ok (.getfield 15, 3) := by decide +kernel
theorem dX1_add_34 : decode cX1_add 34 = .ok (.aload_n 0, 1) := by decide +kernel
theorem dX1_add_35 : decode cX1_add 35 = .ok (.getfield 9, 3) := by decide +kernel
theorem dX1_add_38 : decode cX1_add 38 = .ok (.iload_n 1, 1) := by decide +kernel
theorem dX1_add_39 : decode cX1_add 39 = .ok (.iastore, 1) := by decide +kernel
theorem dX1_add_40 : decode cX1_add 40 = .ok (.aload_n 0, 1) := by decide +kernel
theorem dX1_add_41 : decode cX1_add 41 = .ok (.aload_n 0, 1) := by decide +kernel
theorem dX1_add_42 : decode cX1_add 42 = .ok (.getfield 9, 3) := by decide +kernel
theorem dX1_add_45 : decode cX1_add 45 = .ok (.invokevirtual 45, 3) := by decide +kernel
theorem dX1_add_48 : decode cX1_add 48 = .ok (.aload_n 0, 1) := by decide +kernel
theorem dX1_add_49 : decode cX1_add 49 = .ok (.iload_n 1, 1) := by decide +kernel
theorem dX1_add_50 : decode cX1_add 50 = .ok (.invokevirtual 49, 3) := by decide +kernel
theorem dX1_add_53 : decode cX1_add 53 = .ok (.aload_n 0, 1) := by decide +kernel
theorem dX1_add_54 : decode cX1_add 54 = .ok (.dup, 1) := by decide +kernel
theorem dX1_add_55 : decode cX1_add 55 = .ok (.getfield 9, 3) := by decide +kernel
theorem dX1_add_58 : decode cX1_add 58 = .ok (.iconst 1, 1) := by decide +kernel
theorem dX1_add_59 : decode cX1_add 59 = .ok (.iadd, 1) := by decide +kernel
theorem dX1_add_60 : decode cX1_add 60 = .ok (.putfield 9, 3) := by decide +kernel
theorem dX1_add_63 : decode cX1_add 63 = .ok (.aload_n 0, 1) := by decide +kernel
theorem dX1_add_64 : decode cX1_add 64 = .ok (.getfield 9, 3) := by decide +kernel
theorem dX1_add_67 : decode cX1_add 67 = .ok (.iconst 1, 1) := by decide +kernel
theorem dX1_add_68 : decode cX1_add 68 = .ok (.isub, 1) := by decide +kernel
theorem dX1_add_69 : decode cX1_add 69 = .ok (.ireturn, 1) := by decide +kernel
theorem dX1_isValue_0 : decode cX1_isValue 0 = .ok (.iconst 0, 1) := by decide +kernel
theorem dX1_isValue_1 : decode cX1_isValue 1 = .ok (.istore_n 2, 1) := by decide +kernel
theorem dX1_isValue_2 : decode cX1_isValue 2 = .ok (.iload_n 2, 1) := by decide +kernel
theorem dX1_isValue_3 : decode cX1_isValue 3 = .ok (.aload_n 0, 1) := by decide +kernel
theorem dX1_isValue_4 : decode cX1_isValue 4 = .ok (.getfield 9, 3) := by decide +kernel
theorem dX1_isValue_7 : decode cX1_isValue 7 = .ok (.if_icmp .ge 21, 3) := by decide +kernel
theorem dX1_isValue_10 : decode cX1_isValue 10 = .ok (.aload_n 0, 1) := by decide +kernel
theorem dX1_isValue_11 : decode cX1_isValue 11 = .ok (.getfield 15, 3) := by decide +kernel
theorem dX1_isValue_14 : decode cX1_isValue 14 = .ok (.iload_n 2, 1) := by decide +kernel
theorem dX1_isValue_15 : decode cX1_isValue 15 = .ok (.iaload, 1) := by decide +kernel
theorem dX1_isValue_16 : decode cX1_isValue 16 = .ok (.iload_n 1, 1) := by decide +kernel
theorem dX1_isValue_17 : decode cX1_isValue 17 = .ok (.if_icmp .ne 5, 3) := by decide +kernel
theorem dX1_isValue_20 : decode cX1_isValue 20 = .ok (.iconst 1, 1) := by decide +kernel
theorem dX1_isValue_21 : decode cX1_isValue 21 = .ok (.ireturn, 1) := by decide +kernel
theorem dX1_isValue_22 : decode cX1_isValue 22 = .ok (.iinc 2 1, 3) := by decide +kernel
theorem dX1_isValue_25 : decode cX1_isValue 25 = .ok (.goto (-23), 3) := by decide +kernel
theorem dX1_isValue_28 : decode cX1_isValue 28 = .ok (.iconst 0, 1) := by decide +kernel
theorem dX1_isValue_29 : decode cX1_isValue 29 = .ok (.ireturn, 1) := by decide +kernel
theorem dX1_rank_0 : decode cX1_rank 0 = .ok (.iload_n 1, 1) := by decide +kernel
theorem dX1_rank_1 : decode cX1_rank 1 = .ok (.istore_n 2, 1) := by decide +kernel
theorem dX1_rank_2 : decode cX1_rank 2 = .ok (.iload_n 2, 1) := by decide +kernel
theorem dX1_rank_3 : decode cX1_rank 3 = .ok (.ifCond .le 45, 3) := by decide +kernel
theorem dX1_rank_6 : decode cX1_rank 6 = .ok (.aload_n 0, 1) := by decide +kernel
theorem dX1_rank_7 : decode cX1_rank 7 = .ok (.getfield 15, 3) := by decide +kernel
theorem dX1_rank_10 : decode cX1_rank 10 = .ok (.aload_n 0, 1) := by decide +kernel
theorem dX1_rank_11 : decode cX1_rank 11 = .ok (.getfield 19, 3) := by decide +kernel
theorem dX1_rank_14 : decode cX1_rank 14 = .ok (.iload_n 2, 1) := by decide +kernel
theorem dX1_rank_15 : decode cX1_rank 15 = .ok (.iconst 1, 1) := by decide +kernel
theorem dX1_rank_16 : decode cX1_rank 16 = .ok (.isub, 1) := by decide +kernel
theorem dX1_rank_17 : decode cX1_rank 17 = .ok (.iaload, 1) := by decide +kernel
theorem dX1_rank_18 : decode cX1_rank 18 = .ok (.iaload, 1) := by decide +kernel
theorem dX1_rank_19 : decode cX1_rank 19 = .ok (.aload_n 0, 1) := by decide +kernel
theorem dX1_rank_20 : decode cX1_rank 20 = .ok (.getfield 15, 3) := by decide +kernel
theorem dX1_rank_23 : decode cX1_rank 23 = .ok (.iload_n 1, 1) := by decide +kernel
theorem dX1_rank_24 : decode cX1_rank 24 = .ok (.iaload, 1) := by decide +kernel
theorem dX1_rank_25 : decode cX1_rank 25 = .ok (.if_icmp .ge 23, 3) := by decide +kernel
theorem dX1_rank_28 : decode cX1_rank 28 = .ok (.aload_n 0, 1) := by decide +kernel
theorem dX1_rank_29 : decode cX1_rank 29 = .ok (.getfield 19, 3) := by decide +kernel
theorem dX1_rank_32 : decode cX1_rank 32 = .ok (.iload_n 2, 1) := by decide +kernel
theorem dX1_rank_33 : decode cX1_rank 33 = .ok (.aload_n 0, 1) := by decide +kernel
theorem dX1_rank_34 : decode cX1_rank 34 = .ok (.getfield 19, 3) := by decide +kernel
theorem dX1_rank_37 : decode cX1_rank 37 = .ok (.iload_n 2, 1) := by decide +kernel
theorem dX1_rank_38 : decode cX1_rank 38 = .ok (.iconst 1, 1) := by decide +kernel
theorem dX1_rank_39 : decode cX1_rank 39 = .ok (.isub, 1) := by decide +kernel
theorem dX1_rank_40 : decode cX1_rank 40 = .ok (.iaload, 1) := by decide +kernel
theorem dX1_rank_41 : decode cX1_rank 41 = .ok (.iastore, 1) := by decide +kernel
theorem dX1_rank_42 : decode cX1_rank 42 = .ok (.iinc 2 (-1), 3) := by decide +kernel
theorem dX1_rank_45 : decode cX1_rank 45 = .ok (.goto (-43), 3) := by decide +kernel
theorem dX1_rank_48 : decode cX1_rank 48 = .ok (.aload_n 0, 1) := by decide +kernel
theorem dX1_rank_49 : decode cX1_rank 49 = .ok (.getfield 19, 3) := by decide +kernel
theorem dX1_rank_52 : decode cX1_rank 52 = .ok (.iload_n 2, 1) := by decide +kernel
theorem dX1_rank_53 : decode cX1_rank 53 = .ok (.iload_n 1, 1) := by decide +kernel
theorem dX1_rank_54 : decode cX1_rank 54 = .ok (.iastore, 1) := by decide +kernel
theorem dX1_rank_55 : decode cX1_rank 55 = .ok (.return_, 1) := by decide +kernel
theorem dX1_improve_0 : decode cX1_improve 0 = .ok (.iload_n 1, 1) := by decide +kernel
theorem dX1_improve_1 : decode cX1_improve 1 = .ok (.istore_n 2, 1) := by decide +kernel
theorem dX1_improve_2 : decode cX1_improve 2 = .ok (.iload_n 2, 1) := by decide +kernel
theorem dX1_improve_3 : decode cX1_improve 3 = .ok (.sipush 2000, 3) := by decide +kernel
theorem dX1_improve_6 : decode cX1_improve 6 = .ok (.if_icmp .gt 54, 3) := by decide +kernel
theorem dX1_improve_9 : decode cX1_improve 9 = .ok (.aload_n 0, 1) := by decide +kernel
theorem dX1_improve_10 : decode cX1_improve 10 = .ok (.getfield 22, 3) := by decide +kernel
theorem dX1_improve_13 : decode cX1_improve 13 = .ok (.iload_n 2, 1) := by decide +kernel
theorem dX1_improve_14 : decode cX1_improve 14 = .ok (.iload_n 1, 1) := by decide +kernel
theorem dX1_improve_15 : decode cX1_improve 15 = .ok (.isub, 1) := by decide +kernel
theorem dX1_improve_16 : decode cX1_improve 16 = .ok (.iaload, 1) := by decide +kernel
theorem dX1_improve_17 : decode cX1_improve 17 = .ok (.istore_n 3, 1) := by decide +kernel
theorem dX1_improve_18 : decode cX1_improve 18 = .ok (.iload_n 3, 1) := by decide +kernel
theorem dX1_improve_19 : decode cX1_improve 19 = .ok (.iconst (-1), 1) := by decide +kernel
theorem dX1_improve_20 : decode cX1_improve 20 = .ok (.if_icmp .eq 34, 3) := by decide +kernel
theorem dX1_improve_23 : decode cX1_improve 23 = .ok (.aload_n 0, 1) := by decide +kernel
theorem dX1_improve_24 : decode cX1_improve 24 = .ok (.getfield 22, 3) := by decide +kernel
theorem dX1_improve_27 : decode cX1_improve 27 = .ok (.iload_n 2, 1) := by decide +kernel
theorem dX1_improve_28 : decode cX1_improve 28 = .ok (.iaload, 1) := by decide +kernel
theorem dX1_improve_29 : decode cX1_improve 29 = .ok (.iconst (-1), 1) := by decide +kernel
theorem dX1_improve_30 : decode cX1_improve 30 = .ok (.if_icmp .eq 15, 3) := by decide +kernel
theorem dX1_improve_33 : decode cX1_improve 33 = .ok (.iload_n 3, 1) := by decide +kernel
theorem dX1_improve_34 : decode cX1_improve 34 = .ok (.iconst 1, 1) := by decide +kernel
theorem dX1_improve_35 : decode cX1_improve 35 = .ok (.iadd, 1) := by decide +kernel
theorem dX1_improve_36 : decode cX1_improve 36 = .ok (.aload_n 0, 1) := by decide +kernel
theorem dX1_improve_37 : decode cX1_improve 37 = .ok (.getfield 22, 3) := by decide +kernel
theorem dX1_improve_40 : decode cX1_improve 40 = .ok (.iload_n 2, 1) := by decide +kernel
theorem dX1_improve_41 : decode cX1_improve 41 = .ok (.iaload, 1) := by decide +kernel
theorem dX1_improve_42 : decode cX1_improve 42 = .ok (.if_icmp .ge 12, 3) := by decide +kernel
theorem dX1_improve_45 : decode cX1_improve 45 = .ok (.aload_n 0, 1) := by decide +kernel
theorem dX1_improve_46 : decode cX1_improve 46 = .ok (.getfield 22, 3) := by decide +kernel
theorem dX1_improve_49 : decode cX1_improve 49 = .ok (.iload_n 2, 1) := by decide +kernel
theorem dX1_improve_50 : decode cX1_improve 50 = .ok (.iload_n 3, 1) := by decide +kernel
theorem dX1_improve_51 : decode cX1_improve 51 = .ok (.iconst 1, 1) := by decide +kernel
theorem dX1_improve_52 : decode cX1_improve 52 = .ok (.iadd, 1) := by decide +kernel
theorem dX1_improve_53 : decode cX1_improve 53 = .ok (.iastore, 1) := by decide +kernel
theorem dX1_improve_54 : decode cX1_improve 54 = .ok (.iinc 2 1, 3) := by decide +kernel
theorem dX1_improve_57 : decode cX1_improve 57 = .ok (.goto (-55), 3) := by decide +kernel
theorem dX1_improve_60 : decode cX1_improve 60 = .ok (.return_, 1) := by decide +kernel
theorem dX1_hasFewest_0 : decode cX1_hasFewest 0 = .ok (.iload_n 1, 1) := by decide +kernel
theorem dX1_hasFewest_1 : decode cX1_hasFewest 1 = .ok (.invokestatic 52, 3) := by decide +kernel
theorem dX1_hasFewest_4 : decode cX1_hasFewest 4 = .ok (.ifCond .eq 17, 3) := by decide +kernel
theorem dX1_hasFewest_7 : decode cX1_hasFewest 7 = .ok (.aload_n 0, 1) := by decide +kernel
theorem dX1_hasFewest_8 : decode cX1_hasFewest 8 = .ok (.getfield 22, 3) := by decide +kernel
theorem dX1_hasFewest_11 : decode cX1_hasFewest 11 = .ok (.iload_n 1, 1) := by decide +kernel
theorem dX1_hasFewest_12 : decode cX1_hasFewest 12 = .ok (.iaload, 1) := by decide +kernel
theorem dX1_hasFewest_13 : decode cX1_hasFewest 13 = .ok (.iconst (-1), 1) := by decide +kernel
theorem dX1_hasFewest_14 : decode cX1_hasFewest 14 = .ok (.if_icmp .eq 7, 3) := by decide +kernel
theorem dX1_hasFewest_17 : decode cX1_hasFewest 17 = .ok (.iconst 1, 1) := by decide +kernel
theorem dX1_hasFewest_18 : decode cX1_hasFewest 18 = .ok (.goto 4, 3) := by decide +kernel
theorem dX1_hasFewest_21 : decode cX1_hasFewest 21 = .ok (.iconst 0, 1) := by decide +kernel
theorem dX1_hasFewest_22 : decode cX1_hasFewest 22 = .ok (.ireturn, 1) := by decide +kernel
theorem dX1_writeFewest_0 : decode cX1_writeFewest 0 = .ok (.iload_n 1, 1) := by decide +kernel
theorem dX1_writeFewest_1 : decode cX1_writeFewest 1 = .ok (.istore_n 3, 1) := by decide +kernel
theorem dX1_writeFewest_2 : decode cX1_writeFewest 2 = .ok (.iconst 0, 1) := by decide +kernel
theorem dX1_writeFewest_3 : decode cX1_writeFewest 3 = .ok (.istore 4, 2) := by decide +kernel
theorem dX1_writeFewest_5 : decode cX1_writeFewest 5 = .ok (.iload 4, 2) := by decide +kernel
theorem dX1_writeFewest_7 : decode cX1_writeFewest 7 = .ok (.aload_n 0, 1) := by decide +kernel
theorem dX1_writeFewest_8 : decode cX1_writeFewest 8 = .ok (.getfield 9, 3) := by decide +kernel
theorem dX1_writeFewest_11 : decode cX1_writeFewest 11 = .ok (.if_icmp .ge 83, 3) := by decide +kernel
theorem dX1_writeFewest_14 : decode cX1_writeFewest 14 = .ok (.aload_n 0, 1) := by decide +kernel
theorem dX1_writeFewest_15 : decode cX1_writeFewest 15 = .ok (.getfield 15, 3) := by decide +kernel
theorem dX1_writeFewest_18 : decode cX1_writeFewest 18 = .ok (.aload_n 0, 1) := by decide +kernel
theorem dX1_writeFewest_19 : decode cX1_writeFewest 19 = .ok (.getfield 19, 3) := by decide +kernel
theorem dX1_writeFewest_22 : decode cX1_writeFewest 22 = .ok (.iload 4, 2) := by decide +kernel
theorem dX1_writeFewest_24 : decode cX1_writeFewest 24 = .ok (.iaload, 1) := by decide +kernel
theorem dX1_writeFewest_25 : decode cX1_writeFewest 25 = .ok (.iaload, 1) := by decide +kernel
theorem dX1_writeFewest_26 : decode cX1_writeFewest 26 = .ok (.istore 5, 2) := by decide +kernel
theorem dX1_writeFewest_28 : decode cX1_writeFewest 28 = .ok (.iload_n 3, 1) := by decide +kernel
theorem dX1_writeFewest_29 : decode cX1_writeFewest 29 = .ok (.iload 5, 2) := by decide +kernel
theorem dX1_writeFewest_31 : decode cX1_writeFewest 31 = .ok (.invokestatic 55, 3) := by decide +kernel
theorem dX1_writeFewest_34 : decode cX1_writeFewest 34 = .ok (.istore 6, 2) := by decide +kernel
theorem dX1_writeFewest_36 : decode cX1_writeFewest 36 = .ok (.iconst 0, 1) := by decide +kernel
theorem dX1_writeFewest_37 : decode cX1_writeFewest 37 = .ok (.istore 7, 2) := by decide +kernel
theorem dX1_writeFewest_39 : decode cX1_writeFewest 39 = .ok (.iload 7, 2) := by decide +kernel
theorem dX1_writeFewest_41 : decode cX1_writeFewest 41 = .ok (.iload 6, 2) := by decide +kernel
theorem dX1_writeFewest_43 : decode cX1_writeFewest 43 = .ok (.if_icmp .ge 34, 3) := by decide +kernel
theorem dX1_writeFewest_46 : decode cX1_writeFewest 46 = .ok (.aload_n 0, 1) := by decide +kernel
theorem dX1_writeFewest_47 : decode cX1_writeFewest 47 = .ok (.getfield 22, 3) := by decide +kernel
theorem dX1_writeFewest_50 : decode cX1_writeFewest 50 = .ok (.iload_n 3, 1) := by decide +kernel
theorem dX1_writeFewest_51 : decode cX1_writeFewest 51 = .ok (.iload 5, 2) := by decide +kernel
theorem dX1_writeFewest_53 : decode cX1_writeFewest 53 = .ok (.isub, 1) := by decide +kernel
theorem dX1_writeFewest_54 : decode cX1_writeFewest 54 = .ok (.iaload, 1) := by decide +kernel
theorem dX1_writeFewest_55 : decode cX1_writeFewest 55 = .ok (.aload_n 0, 1) := by decide +kernel
theorem dX1_writeFewest_56 : decode cX1_writeFewest 56 = .ok (.getfield 22, 3) := by decide +kernel
theorem dX1_writeFewest_59 : decode cX1_writeFewest 59 = .ok (.iload_n 3, 1) := by decide +kernel
theorem dX1_writeFewest_60 : decode cX1_writeFewest 60 = .ok (.iaload, 1) := by decide +kernel
theorem dX1_writeFewest_61 : decode cX1_writeFewest 61 = .ok (.iconst 1, 1) := by decide +kernel
theorem dX1_writeFewest_62 : decode cX1_writeFewest 62 = .ok (.isub, 1) := by decide +kernel
theorem dX1_writeFewest_63 : decode cX1_writeFewest 63 = .ok (.if_icmp .ne 14, 3) := by decide +kernel
theorem dX1_writeFewest_66 : decode cX1_writeFewest 66 = .ok (.iload_n 3, 1) := by decide +kernel
theorem dX1_writeFewest_67 : decode cX1_writeFewest 67 = .ok (.iload 5, 2) := by decide +kernel
theorem dX1_writeFewest_69 : decode cX1_writeFewest 69 = .ok (.isub, 1) := by decide +kernel
theorem dX1_writeFewest_70 : decode cX1_writeFewest 70 = .ok (.istore_n 3, 1) := by decide +kernel
theorem dX1_writeFewest_71 : decode cX1_writeFewest 71 = .ok (.iinc 7 1, 3) := by decide +kernel
theorem dX1_writeFewest_74 : decode cX1_writeFewest 74 = .ok (.goto (-35), 3) := by decide +kernel
theorem dX1_writeFewest_77 : decode cX1_writeFewest 77 = .ok (.aload_n 2, 1) := by decide +kernel
theorem dX1_writeFewest_78 : decode cX1_writeFewest 78 = .ok (.aload_n 0, 1) := by decide +kernel
theorem dX1_writeFewest_79 : decode cX1_writeFewest 79 = .ok (.getfield 19, 3) := by decide +kernel
theorem dX1_writeFewest_82 : decode cX1_writeFewest 82 = .ok (.iload 4, 2) := by decide +kernel
theorem dX1_writeFewest_84 : decode cX1_writeFewest 84 = .ok (.iaload, 1) := by decide +kernel
theorem dX1_writeFewest_85 : decode cX1_writeFewest 85 = .ok (.iload 7, 2) := by decide +kernel
theorem dX1_writeFewest_87 : decode cX1_writeFewest 87 = .ok (.iastore, 1) := by decide +kernel
theorem dX1_writeFewest_88 : decode cX1_writeFewest 88 = .ok (.iinc 4 1, 3) := by decide +kernel
theorem dX1_writeFewest_91 : decode cX1_writeFewest 91 = .ok (.goto (-86), 3) := by decide +kernel
theorem dX1_writeFewest_94 : decode cX1_writeFewest 94 = .ok (.return_, 1) := by decide +kernel
theorem dX1_countGreedily_0 : decode cX1_countGreedily 0 = .ok (.iload_n 1, 1) := by decide +kernel
theorem dX1_countGreedily_1 : decode cX1_countGreedily 1 = .ok (.istore_n 2, 1) := by decide +kernel
theorem dX1_countGreedily_2 : decode cX1_countGreedily 2 = .ok (.iconst 0, 1) := by decide +kernel
theorem dX1_countGreedily_3 : decode cX1_countGreedily 3 = .ok (.istore_n 3, 1) := by decide +kernel
theorem dX1_countGreedily_4 : decode cX1_countGreedily 4 = .ok (.iconst 0, 1) := by decide +kernel
theorem dX1_countGreedily_5 : decode cX1_countGreedily 5 = .ok (.istore 4, 2) := by decide +kernel
theorem dX1_countGreedily_7 : decode cX1_countGreedily 7 = .ok (.iload 4, 2) := by decide +kernel
theorem dX1_countGreedily_9 : decode cX1_countGreedily 9 = .ok (.aload_n 0, 1) := by decide +kernel
theorem dX1_countGreedily_10 : decode cX1_countGreedily 10 = .ok (.getfield 9, 3) := by decide +kernel
theorem dX1_countGreedily_13 : decode cX1_countGreedily 13 = .ok (.if_icmp .ge 48, 3) := by decide +kernel
theorem dX1_countGreedily_16 : decode cX1_countGreedily 16 = .ok (.iload_n 2, 1) := by decide +kernel
theorem dX1_countGreedily_17 : decode cX1_countGreedily 17 = .ok (.ifCond .le 44, 3) := by decide +kernel
theorem dX1_countGreedily_20 : decode cX1_countGreedily 20 = .ok (.aload_n 0, 1) := by decide +kernel
theorem dX1_countGreedily_21 : decode cX1_countGreedily 21 = .ok (.getfield 15, 3) := by decide +kernel
theorem dX1_countGreedily_24 : decode cX1_countGreedily 24 = .ok (.aload_n 0, 1) := by decide +kernel
theorem dX1_countGreedily_25 : decode cX1_countGreedily 25 = .ok (.getfield 19, 3) := by decide +kernel
theorem dX1_countGreedily_28 : decode cX1_countGreedily 28 = .ok (.iload 4, 2) := by decide +kernel
theorem dX1_countGreedily_30 : decode cX1_countGreedily 30 = .ok (.iaload, 1) := by decide +kernel
theorem dX1_countGreedily_31 : decode cX1_countGreedily 31 = .ok (.iaload, 1) := by decide +kernel
theorem dX1_countGreedily_32 : decode cX1_countGreedily 32 = .ok (.istore 5, 2) := by decide +kernel
theorem dX1_countGreedily_34 : decode cX1_countGreedily 34 = .ok (.iload_n 2, 1) := by decide +kernel
theorem dX1_countGreedily_35 : decode cX1_countGreedily 35 = .ok (.iload 5, 2) := by decide +kernel
theorem dX1_countGreedily_37 : decode cX1_countGreedily 37 = .ok (.invokestatic 55, 3) := by decide +kernel
theorem dX1_countGreedily_40 : decode cX1_countGreedily 40 = .ok (.istore 6, 2) := by decide +kernel
theorem dX1_countGreedily_42 : decode cX1_countGreedily 42 = .ok (.iload_n 2, 1) := by decide +kernel
theorem dX1_countGreedily_43 : decode cX1_countGreedily 43 = .ok (.iload 6, 2) := by decide +kernel
theorem dX1_countGreedily_45 : decode cX1_countGreedily 45 = .ok (.iload 5, 2) := by decide +kernel
theorem dX1_countGreedily_47 : decode cX1_countGreedily 47 = .ok (.imul, 1) := by decide +kernel
theorem dX1_countGreedily_48 : decode cX1_countGreedily 48 = .ok (.isub, 1) := by decide +kernel
theorem dX1_countGreedily_49 : decode cX1_countGreedily 49 = .ok (.istore_n 2, 1) := by decide +kernel
theorem dX1_countGreedily_50 : decode cX1_countGreedily 50 = .ok (.iload_n 3, 1) := by decide +kernel
theorem dX1_countGreedily_51 : decode cX1_countGreedily 51 = .ok (.iload 6, 2) := by decide +kernel
theorem dX1_countGreedily_53 : decode cX1_countGreedily 53 = .ok (.iadd, 1) := by decide +kernel
theorem dX1_countGreedily_54 : decode cX1_countGreedily 54 = .ok (.istore_n 3, 1) := by decide +kernel
theorem dX1_countGreedily_55 : decode cX1_countGreedily 55 = .ok (.iinc 4 1, 3) := by decide +kernel
theorem dX1_countGreedily_58 : decode cX1_countGreedily 58 = .ok (.goto (-51), 3) := by decide +kernel
theorem dX1_countGreedily_61 : decode cX1_countGreedily 61 = .ok (.iload_n 2, 1) := by decide +kernel
theorem dX1_countGreedily_62 : decode cX1_countGreedily 62 = .ok (.ifCond .ne 7, 3) := by decide +kernel
theorem dX1_countGreedily_65 : decode cX1_countGreedily 65 = .ok (.iload_n 3, 1) := by decide +kernel
theorem dX1_countGreedily_66 : decode cX1_countGreedily 66 = .ok (.goto 4, 3) := by decide +kernel
theorem dX1_countGreedily_69 : decode cX1_countGreedily 69 = .ok (.iconst (-1), 1) := by decide +kernel
theorem dX1_countGreedily_70 : decode cX1_countGreedily 70 = .ok (.ireturn, 1) := by decide +kernel
theorem dX1_leastOdd_0 : decode cX1_leastOdd 0 = .ok (.iconst 0, 1) := by decide +kernel
theorem dX1_leastOdd_1 : decode cX1_leastOdd 1 = .ok (.istore_n 1, 1) := by decide +kernel
theorem dX1_leastOdd_2 : decode cX1_leastOdd 2 = .ok (.iload_n 1, 1) := by decide +kernel
theorem dX1_leastOdd_3 : decode cX1_leastOdd 3 = .ok (.sipush 2000, 3) := by decide +kernel
theorem dX1_leastOdd_6 : decode cX1_leastOdd 6 = .ok (.if_icmp .gt 35, 3) := by decide +kernel
theorem dX1_leastOdd_9 : decode cX1_leastOdd 9 = .ok (.aload_n 0, 1) := by decide +kernel
theorem dX1_leastOdd_10 : decode cX1_leastOdd 10 = .ok (.getfield 22, 3) := by decide +kernel
theorem dX1_leastOdd_13 : decode cX1_leastOdd 13 = .ok (.iload_n 1, 1) := by decide +kernel
theorem dX1_leastOdd_14 : decode cX1_leastOdd 14 = .ok (.iaload, 1) := by decide +kernel
theorem dX1_leastOdd_15 : decode cX1_leastOdd 15 = .ok (.iconst (-1), 1) := by decide +kernel
theorem dX1_leastOdd_16 : decode cX1_leastOdd 16 = .ok (.if_icmp .eq 19, 3) := by decide +kernel
theorem dX1_leastOdd_19 : decode cX1_leastOdd 19 = .ok (.aload_n 0, 1) := by decide +kernel
theorem dX1_leastOdd_20 : decode cX1_leastOdd 20 = .ok (.iload_n 1, 1) := by decide +kernel
theorem dX1_leastOdd_21 : decode cX1_leastOdd 21 = .ok (.invokevirtual 59, 3) := by decide +kernel
theorem dX1_leastOdd_24 : decode cX1_leastOdd 24 = .ok (.aload_n 0, 1) := by decide +kernel
theorem dX1_leastOdd_25 : decode cX1_leastOdd 25 = .ok (.getfield 22, 3) := by decide +kernel
theorem dX1_leastOdd_28 : decode cX1_leastOdd 28 = .ok (.iload_n 1, 1) := by decide +kernel
theorem dX1_leastOdd_29 : decode cX1_leastOdd 29 = .ok (.iaload, 1) := by decide +kernel
theorem dX1_leastOdd_30 : decode cX1_leastOdd 30 = .ok (.if_icmp .eq 5, 3) := by decide +kernel
theorem dX1_leastOdd_33 : decode cX1_leastOdd 33 = .ok (.iload_n 1, 1) := by decide +kernel
theorem dX1_leastOdd_34 : decode cX1_leastOdd 34 = .ok (.ireturn, 1) := by decide +kernel
theorem dX1_leastOdd_35 : decode cX1_leastOdd 35 = .ok (.iinc 1 1, 3) := by decide +kernel
theorem dX1_leastOdd_38 : decode cX1_leastOdd 38 = .ok (.goto (-36), 3) := by decide +kernel
theorem dX1_leastOdd_41 : decode cX1_leastOdd 41 = .ok (.iconst (-1), 1) := by decide +kernel
theorem dX1_leastOdd_42 : decode cX1_leastOdd 42 = .ok (.ireturn, 1) := by decide +kernel
theorem dX1_detail_0 : decode cX1_detail 0 = .ok (.iload_n 1, 1) := by decide +kernel
theorem dX1_detail_1 : decode cX1_detail 1 = .ok (.ifCond .ne 8, 3) := by decide +kernel
theorem dX1_detail_4 : decode cX1_detail 4 = .ok (.aload_n 0, 1) := by decide +kernel
theorem dX1_detail_5 : decode cX1_detail 5 = .ok (.getfield 9, 3) := by decide +kernel
theorem dX1_detail_8 : decode cX1_detail 8 = .ok (.ireturn, 1) := by decide +kernel
theorem dX1_detail_9 : decode cX1_detail 9 = .ok (.aload_n 0, 1) := by decide +kernel
theorem dX1_detail_10 : decode cX1_detail 10 = .ok (.iload_n 1, 1) := by decide +kernel
theorem dX1_detail_11 : decode cX1_detail 11 = .ok (.bipush 10, 2) := by decide +kernel
theorem dX1_detail_13 : decode cX1_detail 13 = .ok (.isub, 1) := by decide +kernel
theorem dX1_detail_14 : decode cX1_detail 14 = .ok (.invokevirtual 63, 3) := by decide +kernel
theorem dX1_detail_17 : decode cX1_detail 17 = .ok (.ifCond .eq 15, 3) := by decide +kernel
theorem dX1_detail_20 : decode cX1_detail 20 = .ok (.aload_n 0, 1) := by decide +kernel
theorem dX1_detail_21 : decode cX1_detail 21 = .ok (.getfield 15, 3) := by decide +kernel
theorem dX1_detail_24 : decode cX1_detail 24 = .ok (.iload_n 1, 1) := by decide +kernel
theorem dX1_detail_25 : decode cX1_detail 25 = .ok (.bipush 10, 2) := by decide +kernel
theorem dX1_detail_27 : decode cX1_detail 27 = .ok (.isub, 1) := by decide +kernel
theorem dX1_detail_28 : decode cX1_detail 28 = .ok (.iaload, 1) := by decide +kernel
theorem dX1_detail_29 : decode cX1_detail 29 = .ok (.goto 4, 3) := by decide +kernel
theorem dX1_detail_32 : decode cX1_detail 32 = .ok (.iconst (-1), 1) := by decide +kernel
theorem dX1_detail_33 : decode cX1_detail 33 = .ok (.ireturn, 1) := by decide +kernel
theorem dX2_init_0 : decode cX2_init 0 = .ok (.aload_n 0, 1) := by decide +kernel
theorem dX2_init_1 : decode cX2_init 1 = .ok (.invokespecial 3, 3) := by decide +kernel
theorem dX2_init_4 : decode cX2_init 4 = .ok (.aload_n 0, 1) := by decide +kernel
theorem dX2_init_5 : decode cX2_init 5 = .ok (.iconst 0, 1) := by decide +kernel
theorem dX2_init_6 : decode cX2_init 6 = .ok (.putfield 9, 3) := by decide +kernel
theorem dX2_init_9 : decode cX2_init 9 = .ok (.aload_n 0, 1) := by decide +kernel
theorem dX2_init_10 : decode cX2_init 10 = .ok (.bipush 20, 2) := by decide +kernel
theorem dX2_init_12 : decode cX2_init 12 = .ok (.newarray .int, 2) := by decide +kernel
theorem dX2_init_14 : decode cX2_init 14 = .ok (.putfield 15, 3) := by decide +kernel
theorem dX2_init_17 : decode cX2_init 17 = .ok (.aload_n 0, 1) := by decide +kernel
theorem dX2_init_18 : decode cX2_init 18 = .ok (.bipush 20, 2) := by decide +kernel
theorem dX2_init_20 : decode cX2_init 20 = .ok (.newarray .int, 2) := by decide +kernel
theorem dX2_init_22 : decode cX2_init 22 = .ok (.putfield 19, 3) := by decide +kernel
theorem dX2_init_25 : decode cX2_init 25 = .ok (.aload_n 0, 1) := by decide +kernel
theorem dX2_init_26 : decode cX2_init 26 = .ok (.bipush 20, 2) := by decide +kernel
theorem dX2_init_28 : decode cX2_init 28 = .ok (.newarray .int, 2) := by decide +kernel
theorem dX2_init_30 : decode cX2_init 30 = .ok (.putfield 22, 3) := by decide +kernel
theorem dX2_init_33 : decode cX2_init 33 = .ok (.aload_n 0, 1) := by decide +kernel
theorem dX2_init_34 : decode cX2_init 34 = .ok (.bipush 20, 2) := by decide +kernel
theorem dX2_init_36 : decode cX2_init 36 = .ok (.newarray .int, 2) := by decide +kernel
theorem dX2_init_38 : decode cX2_init 38 = .ok (.putfield 25, 3) := by decide +kernel
theorem dX2_init_41 : decode cX2_init 41 = .ok (.return_, 1) := by decide +kernel
theorem dX2_copyFrom_0 : decode cX2_copyFrom 0 = .ok (.aload_n 0, 1) := by decide +kernel
theorem dX2_copyFrom_1 : decode cX2_copyFrom 1 = .ok (.aload_n 1, 1) := by decide +kernel
theorem dX2_copyFrom_2 : decode cX2_copyFrom 2 = .ok (.getfield 9, 3) := by decide +kernel
theorem dX2_copyFrom_5 : decode cX2_copyFrom 5 = .ok (.putfield 9, 3) := by decide +kernel
theorem dX2_copyFrom_8 : decode cX2_copyFrom 8 = .ok (.aload_n 1, 1) := by decide +kernel
theorem dX2_copyFrom_9 : decode cX2_copyFrom 9 = .ok (.getfield 15, 3) := by decide +kernel
theorem dX2_copyFrom_12 : decode cX2_copyFrom 12 = .ok (.iconst 0, 1) := by decide +kernel
theorem dX2_copyFrom_13 : decode cX2_copyFrom 13 = .ok (.aload_n 0, 1) := by decide +kernel
theorem dX2_copyFrom_14 : decode cX2_copyFrom 14 = .ok (.getfield 15, 3) := by decide +kernel
theorem dX2_copyFrom_17 : decode cX2_copyFrom 17 = .ok (.iconst 0, 1) := by decide +kernel
theorem dX2_copyFrom_18 : decode cX2_copyFrom 18 = .ok (.bipush 20, 2) := by decide +kernel
theorem dX2_copyFrom_20 : decode cX2_copyFrom 20 = .ok (.invokestatic 28, 3) := by decide +kernel
theorem dX2_copyFrom_23 : decode cX2_copyFrom 23 = .ok (.aload_n 1, 1) := by decide +kernel
theorem dX2_copyFrom_24 : decode cX2_copyFrom 24 = .ok (.getfield 19, 3) := by decide +kernel
theorem dX2_copyFrom_27 : decode cX2_copyFrom 27 = .ok (.iconst 0, 1) := by decide +kernel
theorem dX2_copyFrom_28 : decode cX2_copyFrom 28 = .ok (.aload_n 0, 1) := by decide +kernel
theorem dX2_copyFrom_29 : decode cX2_copyFrom 29 = .ok (.getfield 19, 3) := by decide +kernel
theorem dX2_copyFrom_32 : decode cX2_copyFrom 32 = .ok (.iconst 0, 1) := by decide +kernel
theorem dX2_copyFrom_33 : decode cX2_copyFrom 33 = .ok (.bipush 20, 2) := by decide +kernel
theorem dX2_copyFrom_35 : decode cX2_copyFrom 35 = .ok (.invokestatic 28, 3) := by decide +kernel
theorem dX2_copyFrom_38 : decode cX2_copyFrom 38 = .ok (.aload_n 1, 1) := by decide +kernel
theorem dX2_copyFrom_39 : decode cX2_copyFrom 39 = .ok (.getfield 22, 3) := by decide +kernel
theorem dX2_copyFrom_42 : decode cX2_copyFrom 42 = .ok (.iconst 0, 1) := by decide +kernel
theorem dX2_copyFrom_43 : decode cX2_copyFrom 43 = .ok (.aload_n 0, 1) := by decide +kernel
theorem dX2_copyFrom_44 : decode cX2_copyFrom 44 = .ok (.getfield 22, 3) := by decide +kernel
theorem dX2_copyFrom_47 : decode cX2_copyFrom 47 = .ok (.iconst 0, 1) := by decide +kernel
theorem dX2_copyFrom_48 : decode cX2_copyFrom 48 = .ok (.bipush 20, 2) := by decide +kernel
theorem dX2_copyFrom_50 : decode cX2_copyFrom 50 = .ok (.invokestatic 28, 3) := by decide +kernel
theorem dX2_copyFrom_53 : decode cX2_copyFrom 53 = .ok (.aload_n 1, 1) := by decide +kernel
theorem dX2_copyFrom_54 : decode cX2_copyFrom 54 = .ok (.getfield 25, 3) := by decide +kernel
theorem dX2_copyFrom_57 : decode cX2_copyFrom 57 = .ok (.iconst 0, 1) := by decide +kernel
theorem dX2_copyFrom_58 : decode cX2_copyFrom 58 = .ok (.aload_n 0, 1) := by decide +kernel
theorem dX2_copyFrom_59 : decode cX2_copyFrom 59 = .ok (.getfield 25, 3) := by decide +kernel
theorem dX2_copyFrom_62 : decode cX2_copyFrom 62 = .ok (.iconst 0, 1) := by decide +kernel
theorem dX2_copyFrom_63 : decode cX2_copyFrom 63 = .ok (.bipush 20, 2) := by decide +kernel
theorem dX2_copyFrom_65 : decode cX2_copyFrom 65 = .ok (.invokestatic 28, 3) := by decide +kernel
theorem dX2_copyFrom_68 : decode cX2_copyFrom 68 = .ok (.return_, 1) := by decide +kernel
theorem dX2_add_0 : decode cX2_add 0 = .ok (.aload_n 0, 1) := by decide +kernel
theorem dX2_add_1 : decode cX2_add 1 = .ok (.getfield 9, 3) := by decide +kernel
theorem dX2_add_4 : decode cX2_add 4 = .ok (.bipush 20, 2) := by decide +kernel
theorem dX2_add_6 : decode cX2_add 6 = .ok (.if_icmp .lt 5, 3) := by decide +kernel
theorem dX2_add_9 : decode cX2_add 9 = .ok (.iconst (-1), 1) := by decide +kernel
theorem dX2_add_10 : decode cX2_add 10 = .ok (.ireturn, 1) := by decide +kernel
theorem dX2_add_11 : decode cX2_add 11 = .ok (.aload_n 0, 1) := by decide +kernel
theorem dX2_add_12 : decode cX2_add 12 = .ok (.getfield 15, 3) := by decide +kernel
theorem dX2_add_15 : decode cX2_add 15 = .ok (.aload_n 0, 1) := by decide +kernel
theorem dX2_add_16 : decode cX2_add 16 = .ok (.getfield 9, 3) := by decide +kernel
theorem dX2_add_19 : decode cX2_add 19 = .ok (.iload_n 1, 1) := by decide +kernel
theorem dX2_add_20 : decode cX2_add 20 = .ok (.iastore, 1) := by decide +kernel
theorem dX2_add_21 : decode cX2_add 21 = .ok (.aload_n 0, 1) := by decide +kernel
theorem dX2_add_22 : decode cX2_add 22 = .ok (.getfield 19, 3) := by decide +kernel
theorem dX2_add_25 : decode cX2_add 25 = .ok (.aload_n 0, 1) := by decide +kernel
theorem dX2_add_26 : decode cX2_add 26 = .ok (.getfield 9, 3) := by decide +kernel
theorem dX2_add_29 : decode cX2_add 29 = .ok (.iload_n 2, 1) := by decide +kernel
theorem dX2_add_30 : decode cX2_add 30 = .ok (.iastore, 1) := by decide +kernel
theorem dX2_add_31 : decode cX2_add 31 = .ok (.aload_n 0, 1) := by decide +kernel
theorem dX2_add_32 : decode cX2_add 32 = .ok (.getfield 22, 3) := by decide +kernel
theorem dX2_add_35 : decode cX2_add 35 = .ok (.aload_n 0, 1) := by decide +kernel
theorem dX2_add_36 : decode cX2_add 36 = .ok (.getfield 9, 3) := by decide +kernel
theorem dX2_add_39 : decode cX2_add 39 = .ok (.iload_n 3, 1) := by decide +kernel
theorem dX2_add_40 : decode cX2_add 40 = .ok (.iastore, 1) := by decide +kernel
theorem dX2_add_41 : decode cX2_add 41 = .ok (.aload_n 0, 1) := by decide +kernel
theorem dX2_add_42 : decode cX2_add 42 = .ok (.getfield 25, 3) := by decide +kernel
theorem dX2_add_45 : decode cX2_add 45 = .ok (.aload_n 0, 1) := by decide +kernel
theorem dX2_add_46 : decode cX2_add 46 = .ok (.getfield 9, 3) := by decide +kernel
theorem dX2_add_49 : decode cX2_add 49 = .ok (.iload 4, 2) := by decide +kernel
theorem dX2_add_51 : decode cX2_add 51 = .ok (.iastore, 1) := by decide +kernel
theorem dX2_add_52 : decode cX2_add 52 = .ok (.aload_n 0, 1) := by decide +kernel
theorem dX2_add_53 : decode cX2_add 53 = .ok (.dup, 1) := by decide +kernel
theorem dX2_add_54 : decode cX2_add 54 = .ok (.getfield 9, 3) := by decide +kernel
theorem dX2_add_57 : decode cX2_add 57 = .ok (.iconst 1, 1) := by decide +kernel
theorem dX2_add_58 : decode cX2_add 58 = .ok (.iadd, 1) := by decide +kernel
theorem dX2_add_59 : decode cX2_add 59 = .ok (.putfield 9, 3) := by decide +kernel
theorem dX2_add_62 : decode cX2_add 62 = .ok (.aload_n 0, 1) := by decide +kernel
theorem dX2_add_63 : decode cX2_add 63 = .ok (.getfield 9, 3) := by decide +kernel
theorem dX2_add_66 : decode cX2_add 66 = .ok (.ireturn, 1) := by decide +kernel
theorem dX3_init_0 : decode cX3_init 0 = .ok (.aload_n 0, 1) := by decide +kernel
theorem dX3_init_1 : decode cX3_init 1 = .ok (.invokespecial 3, 3) := by decide +kernel
theorem dX3_init_4 : decode cX3_init 4 = .ok (.aload_n 0, 1) := by decide +kernel
theorem dX3_init_5 : decode cX3_init 5 = .ok (.iconst 0, 1) := by decide +kernel
theorem dX3_init_6 : decode cX3_init 6 = .ok (.putfield 9, 3) := by decide +kernel
theorem dX3_init_9 : decode cX3_init 9 = .ok (.aload_n 0, 1) := by decide +kernel
theorem dX3_init_10 : decode cX3_init 10 = .ok (.bipush 14, 2) := by decide +kernel
theorem dX3_init_12 : decode cX3_init 12 = .ok (.newarray .int, 2) := by decide +kernel
theorem dX3_init_14 : decode cX3_init 14 = .ok (.putfield 15, 3) := by decide +kernel
theorem dX3_init_17 : decode cX3_init 17 = .ok (.aload_n 0, 1) := by decide +kernel
theorem dX3_init_18 : decode cX3_init 18 = .ok (.bipush 14, 2) := by decide +kernel
theorem dX3_init_20 : decode cX3_init 20 = .ok (.newarray .int, 2) := by decide +kernel
theorem dX3_init_22 : decode cX3_init 22 = .ok (.putfield 19, 3) := by decide +kernel
theorem dX3_init_25 : decode cX3_init 25 = .ok (.return_, 1) := by decide +kernel
theorem dX3_copyFrom_0 : decode cX3_copyFrom 0 = .ok (.aload_n 0, 1) := by decide +kernel
theorem dX3_copyFrom_1 : decode cX3_copyFrom 1 = .ok (.aload_n 1, 1) := by decide +kernel
theorem dX3_copyFrom_2 : decode cX3_copyFrom 2 = .ok (.getfield 9, 3) := by decide +kernel
theorem dX3_copyFrom_5 : decode cX3_copyFrom 5 = .ok (.putfield 9, 3) := by decide +kernel
theorem dX3_copyFrom_8 : decode cX3_copyFrom 8 = .ok (.aload_n 1, 1) := by decide +kernel
theorem dX3_copyFrom_9 : decode cX3_copyFrom 9 = .ok (.getfield 15, 3) := by decide +kernel
theorem dX3_copyFrom_12 : decode cX3_copyFrom 12 = .ok (.iconst 0, 1) := by decide +kernel
theorem dX3_copyFrom_13 : decode cX3_copyFrom 13 = .ok (.aload_n 0, 1) := by decide +kernel
theorem dX3_copyFrom_14 : decode cX3_copyFrom 14 = .ok (.getfield 15, 3) := by decide +kernel
theorem dX3_copyFrom_17 : decode cX3_copyFrom 17 = .ok (.iconst 0, 1) := by decide +kernel
theorem dX3_copyFrom_18 : decode cX3_copyFrom 18 = .ok (.bipush 14, 2) := by decide +kernel
theorem dX3_copyFrom_20 : decode cX3_copyFrom 20 = .ok (.invokestatic 22, 3) := by decide +kernel
theorem dX3_copyFrom_23 : decode cX3_copyFrom 23 = .ok (.aload_n 1, 1) := by decide +kernel
theorem dX3_copyFrom_24 : decode cX3_copyFrom 24 = .ok (.getfield 19, 3) := by decide +kernel
theorem dX3_copyFrom_27 : decode cX3_copyFrom 27 = .ok (.iconst 0, 1) := by decide +kernel
theorem dX3_copyFrom_28 : decode cX3_copyFrom 28 = .ok (.aload_n 0, 1) := by decide +kernel
theorem dX3_copyFrom_29 : decode cX3_copyFrom 29 = .ok (.getfield 19, 3) := by decide +kernel
theorem dX3_copyFrom_32 : decode cX3_copyFrom 32 = .ok (.iconst 0, 1) := by decide +kernel
theorem dX3_copyFrom_33 : decode cX3_copyFrom 33 = .ok (.bipush 14, 2) := by decide +kernel
theorem dX3_copyFrom_35 : decode cX3_copyFrom 35 = .ok (.invokestatic 22, 3) := by decide +kernel
theorem dX3_copyFrom_38 : decode cX3_copyFrom 38 = .ok (.return_, 1) := by decide +kernel
theorem dX3_isGood_0 : decode cX3_isGood 0 = .ok (.iconst 0, 1) := by decide +kernel
theorem dX3_isGood_1 : decode cX3_isGood 1 = .ok (.iload_n 1, 1) := by decide +kernel
theorem dX3_isGood_2 : decode cX3_isGood 2 = .ok (.aload_n 0, 1) := by decide +kernel
theorem dX3_isGood_3 : decode cX3_isGood 3 = .ok (.getfield 9, 3) := by decide +kernel
theorem dX3_isGood_6 : decode cX3_isGood 6 = .ok (.iconst 1, 1) := by decide +kernel
theorem dX3_isGood_7 : decode cX3_isGood 7 = .ok (.isub, 1) := by decide +kernel
theorem dX3_isGood_8 : decode cX3_isGood 8 = .ok (.invokestatic 28, 3) := by decide +kernel
theorem dX3_isGood_11 : decode cX3_isGood 11 = .ok (.ireturn, 1) := by decide +kernel
theorem dX3_add_0 : decode cX3_add 0 = .ok (.aload_n 0, 1) := by decide +kernel
theorem dX3_add_1 : decode cX3_add 1 = .ok (.getfield 9, 3) := by decide +kernel
theorem dX3_add_4 : decode cX3_add 4 = .ok (.bipush 14, 2) := by decide +kernel
theorem dX3_add_6 : decode cX3_add 6 = .ok (.if_icmp .ge 24, 3) := by decide +kernel
theorem dX3_add_9 : decode cX3_add 9 = .ok (.iconst 1, 1) := by decide +kernel
theorem dX3_add_10 : decode cX3_add 10 = .ok (.iload_n 1, 1) := by decide +kernel
theorem dX3_add_11 : decode cX3_add 11 = .ok (.sipush 10000, 3) := by decide +kernel
theorem dX3_add_14 : decode cX3_add 14 = .ok (.invokestatic 28, 3) := by decide +kernel
theorem dX3_add_17 : decode cX3_add 17 = .ok (.ifCond .eq 13, 3) := by decide +kernel
theorem dX3_add_20 : decode cX3_add 20 = .ok (.iconst 0, 1) := by decide +kernel
theorem dX3_add_21 : decode cX3_add 21 = .ok (.iload_n 2, 1) := by decide +kernel
theorem dX3_add_22 : decode cX3_add 22 = .ok (.bipush 100, 2) := by decide +kernel
theorem dX3_add_24 : decode cX3_add 24 = .ok (.invokestatic 28, 3) := by decide +kernel
theorem dX3_add_27 : decode cX3_add 27 = .ok (.ifCond .ne 5, 3) := by decide +kernel
theorem dX3_add_30 : decode cX3_add 30 = .ok (.iconst (-1), 1) := by decide +kernel
theorem dX3_add_31 : decode cX3_add 31 = .ok (.ireturn, 1) := by decide +kernel
theorem dX3_add_32 : decode cX3_add 32 = .ok (.aload_n 0, 1) := by decide +kernel
theorem dX3_add_33 : decode cX3_add 33 = .ok (.getfield 15, 3) := by decide +kernel
theorem dX3_add_36 : decode cX3_add 36 = .ok (.aload_n 0, 1) := by decide +kernel
theorem dX3_add_37 : decode cX3_add 37 = .ok (.getfield 9, 3) := by decide +kernel
theorem dX3_add_40 : decode cX3_add 40 = .ok (.iload_n 1, 1) := by decide +kernel
theorem dX3_add_41 : decode cX3_add 41 = .ok (.iastore, 1) := by decide +kernel
theorem dX3_add_42 : decode cX3_add 42 = .ok (.aload_n 0, 1) := by decide +kernel
theorem dX3_add_43 : decode cX3_add 43 = .ok (.getfield 19, 3) := by decide +kernel
theorem dX3_add_46 : decode cX3_add 46 = .ok (.aload_n 0, 1) := by decide +kernel
theorem dX3_add_47 : decode cX3_add 47 = .ok (.getfield 9, 3) := by decide +kernel
theorem dX3_add_50 : decode cX3_add 50 = .ok (.iload_n 2, 1) := by decide +kernel
theorem dX3_add_51 : decode cX3_add 51 = .ok (.iastore, 1) := by decide +kernel
theorem dX3_add_52 : decode cX3_add 52 = .ok (.aload_n 0, 1) := by decide +kernel
theorem dX3_add_53 : decode cX3_add 53 = .ok (.dup, 1) := by decide +kernel
theorem dX3_add_54 : decode cX3_add 54 = .ok (.getfield 9, 3) := by decide +kernel
theorem dX3_add_57 : decode cX3_add 57 = .ok (.iconst 1, 1) := by decide +kernel
theorem dX3_add_58 : decode cX3_add 58 = .ok (.iadd, 1) := by decide +kernel
theorem dX3_add_59 : decode cX3_add 59 = .ok (.putfield 9, 3) := by decide +kernel
theorem dX3_add_62 : decode cX3_add 62 = .ok (.aload_n 0, 1) := by decide +kernel
theorem dX3_add_63 : decode cX3_add 63 = .ok (.getfield 9, 3) := by decide +kernel
theorem dX3_add_66 : decode cX3_add 66 = .ok (.iconst 1, 1) := by decide +kernel
theorem dX3_add_67 : decode cX3_add 67 = .ok (.isub, 1) := by decide +kernel
theorem dX3_add_68 : decode cX3_add 68 = .ok (.ireturn, 1) := by decide +kernel
theorem dX4_init_0 : decode cX4_init 0 = .ok (.aload_n 0, 1) := by decide +kernel
theorem dX4_init_1 : decode cX4_init 1 = .ok (.invokespecial 3, 3) := by decide +kernel
theorem dX4_init_4 : decode cX4_init 4 = .ok (.aload_n 0, 1) := by decide +kernel
theorem dX4_init_5 : decode cX4_init 5 = .ok (.new 9, 3) := by decide +kernel
theorem dX4_init_8 : decode cX4_init 8 = .ok (.dup, 1) := by decide +kernel
theorem dX4_init_9 : decode cX4_init 9 = .ok (.invokespecial 11, 3) := by decide +kernel
theorem dX4_init_12 : decode cX4_init 12 = .ok (.putfield 12, 3) := by decide +kernel
theorem dX4_init_15 : decode cX4_init 15 = .ok (.aload_n 0, 1) := by decide +kernel
theorem dX4_init_16 : decode cX4_init 16 = .ok (.new 9, 3) := by decide +kernel
theorem dX4_init_19 : decode cX4_init 19 = .ok (.dup, 1) := by decide +kernel
theorem dX4_init_20 : decode cX4_init 20 = .ok (.invokespecial 11, 3) := by decide +kernel
theorem dX4_init_23 : decode cX4_init 23 = .ok (.putfield 18, 3) := by decide +kernel
theorem dX4_init_26 : decode cX4_init 26 = .ok (.aload_n 0, 1) := by decide +kernel
theorem dX4_init_27 : decode cX4_init 27 = .ok (.new 21, 3) := by decide +kernel
theorem dX4_init_30 : decode cX4_init 30 = .ok (.dup, 1) := by decide +kernel
theorem dX4_init_31 : decode cX4_init 31 = .ok (.invokespecial 23, 3) := by decide +kernel
theorem dX4_init_34 : decode cX4_init 34 = .ok (.putfield 24, 3) := by decide +kernel
theorem dX4_init_37 : decode cX4_init 37 = .ok (.aload_n 0, 1) := by decide +kernel
theorem dX4_init_38 : decode cX4_init 38 = .ok (.iconst 4, 1) := by decide +kernel
theorem dX4_init_39 : decode cX4_init 39 = .ok (.anewarray 28, 3) := by decide +kernel
theorem dX4_init_42 : decode cX4_init 42 = .ok (.putfield 30, 3) := by decide +kernel
theorem dX4_init_45 : decode cX4_init 45 = .ok (.aload_n 0, 1) := by decide +kernel
theorem dX4_init_46 : decode cX4_init 46 = .ok (.bipush 8, 2) := by decide +kernel
theorem dX4_init_48 : decode cX4_init 48 = .ok (.newarray .int, 2) := by decide +kernel
theorem dX4_init_50 : decode cX4_init 50 = .ok (.putfield 34, 3) := by decide +kernel
theorem dX4_init_53 : decode cX4_init 53 = .ok (.aload_n 0, 1) := by decide +kernel
theorem dX4_init_54 : decode cX4_init 54 = .ok (.iconst 0, 1) := by decide +kernel
theorem dX4_init_55 : decode cX4_init 55 = .ok (.putfield 38, 3) := by decide +kernel
theorem dX4_init_58 : decode cX4_init 58 = .ok (.aload_n 0, 1) := by decide +kernel
theorem dX4_init_59 : decode cX4_init 59 = .ok (.iconst 1, 1) := by decide +kernel
theorem dX4_init_60 : decode cX4_init 60 = .ok (.putfield 42, 3) := by decide +kernel
theorem dX4_init_63 : decode cX4_init 63 = .ok (.aload_n 0, 1) := by decide +kernel
theorem dX4_init_64 : decode cX4_init 64 = .ok (.iconst 1, 1) := by decide +kernel
theorem dX4_init_65 : decode cX4_init 65 = .ok (.putfield 45, 3) := by decide +kernel
theorem dX4_init_68 : decode cX4_init 68 = .ok (.aload_n 0, 1) := by decide +kernel
theorem dX4_init_69 : decode cX4_init 69 = .ok (.iconst 1, 1) := by decide +kernel
theorem dX4_init_70 : decode cX4_init 70 = .ok (.putfield 48, 3) := by decide +kernel
theorem dX4_init_73 : decode cX4_init 73 = .ok (.iconst 0, 1) := by decide +kernel
theorem dX4_init_74 : decode cX4_init 74 = .ok (.istore_n 1, 1) := by decide +kernel
theorem dX4_init_75 : decode cX4_init 75 = .ok (.iload_n 1, 1) := by decide +kernel
theorem dX4_init_76 : decode cX4_init 76 = .ok (.iconst 4, 1) := by decide +kernel
theorem dX4_init_77 : decode cX4_init 77 = .ok (.if_icmp .ge 22, 3) := by decide +kernel
theorem dX4_init_80 : decode cX4_init 80 = .ok (.aload_n 0, 1) := by decide +kernel
theorem dX4_init_81 : decode cX4_init 81 = .ok (.getfield 30, 3) := by decide +kernel
theorem dX4_init_84 : decode cX4_init 84 = .ok (.iload_n 1, 1) := by decide +kernel
theorem dX4_init_85 : decode cX4_init 85 = .ok (.new 28, 3) := by decide +kernel
theorem dX4_init_88 : decode cX4_init 88 = .ok (.dup, 1) := by decide +kernel
theorem dX4_init_89 : decode cX4_init 89 = .ok (.invokespecial 51, 3) := by decide +kernel
theorem dX4_init_92 : decode cX4_init 92 = .ok (.aastore, 1) := by decide +kernel
theorem dX4_init_93 : decode cX4_init 93 = .ok (.iinc 1 1, 3) := by decide +kernel
theorem dX4_init_96 : decode cX4_init 96 = .ok (.goto (-21), 3) := by decide +kernel
theorem dX4_init_99 : decode cX4_init 99 = .ok (.return_, 1) := by decide +kernel
theorem dX4_copyFrom_0 : decode cX4_copyFrom 0 = .ok (.aload_n 0, 1) := by decide +kernel
theorem dX4_copyFrom_1 : decode cX4_copyFrom 1 = .ok (.getfield 12, 3) := by decide +kernel
theorem dX4_copyFrom_4 : decode cX4_copyFrom 4 = .ok (.aload_n 1, 1) := by decide +kernel
theorem dX4_copyFrom_5 : decode cX4_copyFrom 5 = .ok (.getfield 12, 3) := by decide +kernel
theorem dX4_copyFrom_8 : decode cX4_copyFrom 8 = .ok (.invokevirtual 52, 3) := by decide +kernel
theorem dX4_copyFrom_11 : decode cX4_copyFrom 11 = .ok (.aload_n 0, 1) := by decide +kernel
theorem dX4_copyFrom_12 : decode cX4_copyFrom 12 = .ok (.getfield 18, 3) := by decide +kernel
theorem dX4_copyFrom_15 : decode cX4_copyFrom 15 = .ok (.aload_n 1, 1) := by decide +kernel
theorem dX4_copyFrom_16 : decode cX4_copyFrom 16 = .ok (.getfield 18, 3) := by decide +kernel
theorem dX4_copyFrom_19 : decode cX4_copyFrom 19 = .ok (.invokevirtual 52, 3) := by decide +kernel
theorem dX4_copyFrom_22 : decode cX4_copyFrom 22 = .ok (.aload_n 0, 1) := by decide +kernel
theorem dX4_copyFrom_23 : decode cX4_copyFrom 23 = .ok (.getfield 24, 3) := by decide +kernel
theorem dX4_copyFrom_26 : decode cX4_copyFrom 26 = .ok (.aload_n 1, 1) := by decide +kernel
theorem dX4_copyFrom_27 : decode cX4_copyFrom 27 = .ok (.getfield 24, 3) := by decide +kernel
theorem dX4_copyFrom_30 : decode cX4_copyFrom 30 = .ok (.invokevirtual 56, 3) := by decide +kernel
theorem dX4_copyFrom_33 : decode cX4_copyFrom 33 = .ok (.iconst 0, 1) := by decide +kernel
theorem dX4_copyFrom_34 : decode cX4_copyFrom 34 = .ok (.istore_n 2, 1) := by decide +kernel
theorem dX4_copyFrom_35 : decode cX4_copyFrom 35 = .ok (.iload_n 2, 1) := by decide +kernel
theorem dX4_copyFrom_36 : decode cX4_copyFrom 36 = .ok (.iconst 4, 1) := by decide +kernel
theorem dX4_copyFrom_37 : decode cX4_copyFrom 37 = .ok (.if_icmp .ge 24, 3) := by decide +kernel
theorem dX4_copyFrom_40 : decode cX4_copyFrom 40 = .ok (.aload_n 0, 1) := by decide +kernel
theorem dX4_copyFrom_41 : decode cX4_copyFrom 41 = .ok (.getfield 30, 3) := by decide +kernel
theorem dX4_copyFrom_44 : decode cX4_copyFrom 44 = .ok (.iload_n 2, 1) := by decide +kernel
theorem dX4_copyFrom_45 : decode cX4_copyFrom 45 = .ok (.aaload, 1) := by decide +kernel
theorem dX4_copyFrom_46 : decode cX4_copyFrom 46 = .ok (.aload_n 1, 1) := by decide +kernel
theorem dX4_copyFrom_47 : decode cX4_copyFrom 47 = .ok (.getfield 30, 3) := by decide +kernel
theorem dX4_copyFrom_50 : decode cX4_copyFrom 50 = .ok (.iload_n 2, 1) := by decide +kernel
theorem dX4_copyFrom_51 : decode cX4_copyFrom 51 = .ok (.aaload, 1) := by decide +kernel
theorem dX4_copyFrom_52 : decode cX4_copyFrom 52 = .ok (.invokevirtual 59, 3) := by decide +kernel
theorem dX4_copyFrom_55 : decode cX4_copyFrom 55 = .ok (.iinc 2 1, 3) := by decide +kernel
theorem dX4_copyFrom_58 : decode cX4_copyFrom 58 = .ok (.goto (-23), 3) := by decide +kernel
theorem dX4_copyFrom_61 : decode cX4_copyFrom 61 = .ok (.aload_n 1, 1) := by decide +kernel
theorem dX4_copyFrom_62 : decode cX4_copyFrom 62 = .ok (.getfield 34, 3) := by decide +kernel
theorem dX4_copyFrom_65 : decode cX4_copyFrom 65 = .ok (.iconst 0, 1) := by decide +kernel
theorem dX4_copyFrom_66 : decode cX4_copyFrom 66 = .ok (.aload_n 0, 1) := by decide +kernel
theorem dX4_copyFrom_67 : decode cX4_copyFrom 67 = .ok (.getfield 34, 3) := by decide +kernel
theorem dX4_copyFrom_70 : decode cX4_copyFrom 70 = .ok (.iconst 0, 1) := by decide +kernel
theorem dX4_copyFrom_71 : decode cX4_copyFrom 71 = .ok (.bipush 8, 2) := by decide +kernel
theorem dX4_copyFrom_73 : decode cX4_copyFrom 73 = .ok (.invokestatic 62, 3) := by decide +kernel
theorem dX4_copyFrom_76 : decode cX4_copyFrom 76 = .ok (.aload_n 0, 1) := by decide +kernel
theorem dX4_copyFrom_77 : decode cX4_copyFrom 77 = .ok (.aload_n 1, 1) := by decide +kernel
theorem dX4_copyFrom_78 : decode cX4_copyFrom 78 = .ok (.getfield 38, 3) := by decide +kernel
theorem dX4_copyFrom_81 : decode cX4_copyFrom 81 = .ok (.putfield 38, 3) := by decide +kernel
theorem dX4_copyFrom_84 : decode cX4_copyFrom 84 = .ok (.aload_n 0, 1) := by decide +kernel
theorem dX4_copyFrom_85 : decode cX4_copyFrom 85 = .ok (.aload_n 1, 1) := by decide +kernel
theorem dX4_copyFrom_86 : decode cX4_copyFrom 86 = .ok (.getfield 42, 3) := by decide +kernel
theorem dX4_copyFrom_89 : decode cX4_copyFrom 89 = .ok (.putfield 42, 3) := by decide +kernel
theorem dX4_copyFrom_92 : decode cX4_copyFrom 92 = .ok (.aload_n 0, 1) := by decide +kernel
theorem dX4_copyFrom_93 : decode cX4_copyFrom 93 = .ok (.aload_n 1, 1) := by decide +kernel
theorem dX4_copyFrom_94 : decode cX4_copyFrom 94 = .ok (.getfield 45, 3) := by decide +kernel
theorem dX4_copyFrom_97 : decode cX4_copyFrom 97 = .ok (.putfield 45, 3) := by decide +kernel
theorem dX4_copyFrom_100 : decode cX4_copyFrom 100 = .ok (.aload_n 0, 1) := by decide +kernel
theorem dX4_copyFrom_101 : decode cX4_copyFrom 101 = .ok (.aload_n 1, 1) := by decide +kernel
theorem dX4_copyFrom_102 : decode cX4_copyFrom 102 = .ok (.getfield 48, 3) := by decide +kernel
theorem dX4_copyFrom_105 : decode cX4_copyFrom 105 = .ok (.putfield 48, 3) := by decide +kernel
theorem dX4_copyFrom_108 : decode cX4_copyFrom 108 = .ok (.return_, 1) := by decide +kernel
theorem dX4_coinageOf_0 : decode cX4_coinageOf 0 = .ok (.iload_n 1, 1) := by decide +kernel
theorem dX4_coinageOf_1 : decode cX4_coinageOf 1 = .ok (.ifCond .ne 8, 3) := by decide +kernel
theorem dX4_coinageOf_4 : decode cX4_coinageOf 4 = .ok (.aload_n 0, 1) := by decide +kernel
theorem dX4_coinageOf_5 : decode cX4_coinageOf 5 = .ok (.getfield 12, 3) := by decide +kernel
theorem dX4_coinageOf_8 : decode cX4_coinageOf 8 = .ok (.areturn, 1) := by decide +kernel
theorem dX4_coinageOf_9 : decode cX4_coinageOf 9 = .ok (.iload_n 1, 1) := by decide +kernel
theorem dX4_coinageOf_10 : decode cX4_coinageOf 10 = .ok (.iconst 1, 1) := by decide +kernel
theorem dX4_coinageOf_11 : decode cX4_coinageOf 11 = .ok (.if_icmp .ne 10, 3) := by decide +kernel
theorem dX4_coinageOf_14 : decode cX4_coinageOf 14 = .ok (.aload_n 0, 1) := by decide +kernel
theorem dX4_coinageOf_15 : decode cX4_coinageOf 15 = .ok (.getfield 18, 3) := by decide +kernel
theorem dX4_coinageOf_18 : decode cX4_coinageOf 18 = .ok (.goto 4, 3) := by decide +kernel
theorem dX4_coinageOf_21 : decode cX4_coinageOf 21 = .ok (.aconst_null, 1) := by decide +kernel
theorem dX4_coinageOf_22 : decode cX4_coinageOf 22 = .ok (.areturn, 1) := by decide +kernel
theorem dX4_tillAt_0 : decode cX4_tillAt 0 = .ok (.iconst 0, 1) := by decide +kernel
theorem dX4_tillAt_1 : decode cX4_tillAt 1 = .ok (.iload_n 1, 1) := by decide +kernel
theorem dX4_tillAt_2 : decode cX4_tillAt 2 = .ok (.aload_n 0, 1) := by decide +kernel
theorem dX4_tillAt_3 : decode cX4_tillAt 3 = .ok (.getfield 38, 3) := by decide +kernel
theorem dX4_tillAt_6 : decode cX4_tillAt 6 = .ok (.iconst 1, 1) := by decide +kernel
theorem dX4_tillAt_7 : decode cX4_tillAt 7 = .ok (.isub, 1) := by decide +kernel
theorem dX4_tillAt_8 : decode cX4_tillAt 8 = .ok (.invokestatic 68, 3) := by decide +kernel
theorem dX4_tillAt_11 : decode cX4_tillAt 11 = .ok (.ifCond .eq 12, 3) := by decide +kernel
theorem dX4_tillAt_14 : decode cX4_tillAt 14 = .ok (.aload_n 0, 1) := by decide +kernel
theorem dX4_tillAt_15 : decode cX4_tillAt 15 = .ok (.getfield 30, 3) := by decide +kernel
theorem dX4_tillAt_18 : decode cX4_tillAt 18 = .ok (.iload_n 1, 1) := by decide +kernel
theorem dX4_tillAt_19 : decode cX4_tillAt 19 = .ok (.aaload, 1) := by decide +kernel
theorem dX4_tillAt_20 : decode cX4_tillAt 20 = .ok (.goto 4, 3) := by decide +kernel
theorem dX4_tillAt_23 : decode cX4_tillAt 23 = .ok (.aconst_null, 1) := by decide +kernel
theorem dX4_tillAt_24 : decode cX4_tillAt 24 = .ok (.areturn, 1) := by decide +kernel
theorem dX4_isCoin_0 : decode cX4_isCoin 0 = .ok (.aload_n 0, 1) := by decide +kernel
theorem dX4_isCoin_1 : decode cX4_isCoin 1 = .ok (.iload_n 1, 1) := by decide +kernel
theorem dX4_isCoin_2 : decode cX4_isCoin 2 = .ok (.invokevirtual 72, 3) := by decide +kernel
theorem dX4_isCoin_5 : decode cX4_isCoin 5 = .ok (.astore_n 3, 1) := by decide +kernel
theorem dX4_isCoin_6 : decode cX4_isCoin 6 = .ok (.aload_n 3, 1) := by decide +kernel
theorem dX4_isCoin_7 : decode cX4_isCoin 7 = .ok (.ifnull 15, 3) := by decide +kernel
theorem dX4_isCoin_10 : decode cX4_isCoin 10 = .ok (.aload_n 3, 1) := by decide +kernel
theorem dX4_isCoin_11 : decode cX4_isCoin 11 = .ok (.iload_n 2, 1) := by decide +kernel
theorem dX4_isCoin_12 : decode cX4_isCoin 12 = .ok (.invokevirtual 76, 3) := by decide +kernel
theorem dX4_isCoin_15 : decode cX4_isCoin 15 = .ok (.ifCond .eq 7, 3) := by decide +kernel
theorem dX4_isCoin_18 : decode cX4_isCoin 18 = .ok (.iconst 1, 1) := by decide +kernel
theorem dX4_isCoin_19 : decode cX4_isCoin 19 = .ok (.goto 4, 3) := by decide +kernel
theorem dX4_isCoin_22 : decode cX4_isCoin 22 = .ok (.iconst 0, 1) := by decide +kernel
theorem dX4_isCoin_23 : decode cX4_isCoin 23 = .ok (.ireturn, 1) := by decide +kernel
theorem dX4_isSale_0 : decode cX4_isSale 0 = .ok (.iconst 1, 1) := by decide +kernel
theorem dX4_isSale_1 : decode cX4_isSale 1 = .ok (.iload_n 1, 1) := by decide +kernel
theorem dX4_isSale_2 : decode cX4_isSale 2 = .ok (.sipush 2000, 3) := by decide +kernel
theorem dX4_isSale_5 : decode cX4_isSale 5 = .ok (.invokestatic 68, 3) := by decide +kernel
theorem dX4_isSale_8 : decode cX4_isSale 8 = .ok (.ifCond .eq 27, 3) := by decide +kernel
theorem dX4_isSale_11 : decode cX4_isSale 11 = .ok (.iconst 1, 1) := by decide +kernel
theorem dX4_isSale_12 : decode cX4_isSale 12 = .ok (.iload 4, 2) := by decide +kernel
theorem dX4_isSale_14 : decode cX4_isSale 14 = .ok (.bipush 50, 2) := by decide +kernel
theorem dX4_isSale_16 : decode cX4_isSale 16 = .ok (.invokestatic 68, 3) := by decide +kernel
theorem dX4_isSale_19 : decode cX4_isSale 19 = .ok (.ifCond .eq 16, 3) := by decide +kernel
theorem dX4_isSale_22 : decode cX4_isSale 22 = .ok (.aload_n 0, 1) := by decide +kernel
theorem dX4_isSale_23 : decode cX4_isSale 23 = .ok (.iload_n 2, 1) := by decide +kernel
theorem dX4_isSale_24 : decode cX4_isSale 24 = .ok (.iload_n 3, 1) := by decide +kernel
theorem dX4_isSale_25 : decode cX4_isSale 25 = .ok (.invokevirtual 80, 3) := by decide +kernel
theorem dX4_isSale_28 : decode cX4_isSale 28 = .ok (.ifCond .eq 7, 3) := by decide +kernel
theorem dX4_isSale_31 : decode cX4_isSale 31 = .ok (.iconst 1, 1) := by decide +kernel
theorem dX4_isSale_32 : decode cX4_isSale 32 = .ok (.goto 4, 3) := by decide +kernel
theorem dX4_isSale_35 : decode cX4_isSale 35 = .ok (.iconst 0, 1) := by decide +kernel
theorem dX4_isSale_36 : decode cX4_isSale 36 = .ok (.ireturn, 1) := by decide +kernel
theorem dX4_hasSold_0 : decode cX4_hasSold 0 = .ok (.iconst 0, 1) := by decide +kernel
theorem dX4_hasSold_1 : decode cX4_hasSold 1 = .ok (.istore_n 1, 1) := by decide +kernel
theorem dX4_hasSold_2 : decode cX4_hasSold 2 = .ok (.iload_n 1, 1) := by decide +kernel
theorem dX4_hasSold_3 : decode cX4_hasSold 3 = .ok (.aload_n 0, 1) := by decide +kernel
theorem dX4_hasSold_4 : decode cX4_hasSold 4 = .ok (.getfield 38, 3) := by decide +kernel
theorem dX4_hasSold_7 : decode cX4_hasSold 7 = .ok (.if_icmp .ge 23, 3) := by decide +kernel
theorem dX4_hasSold_10 : decode cX4_hasSold 10 = .ok (.aload_n 0, 1) := by decide +kernel
theorem dX4_hasSold_11 : decode cX4_hasSold 11 = .ok (.getfield 30, 3) := by decide +kernel
theorem dX4_hasSold_14 : decode cX4_hasSold 14 = .ok (.iload_n 1, 1) := by decide +kernel
theorem dX4_hasSold_15 : decode cX4_hasSold 15 = .ok (.aaload, 1) := by decide +kernel
theorem dX4_hasSold_16 : decode cX4_hasSold 16 = .ok (.getfield 83, 3) := by decide +kernel
theorem dX4_hasSold_19 : decode cX4_hasSold 19 = .ok (.ifCond .le 5, 3) := by decide +kernel
theorem dX4_hasSold_22 : decode cX4_hasSold 22 = .ok (.iconst 1, 1) := by decide +kernel
theorem dX4_hasSold_23 : decode cX4_hasSold 23 = .ok (.ireturn, 1) := by decide +kernel
theorem dX4_hasSold_24 : decode cX4_hasSold 24 = .ok (.iinc 1 1, 3) := by decide +kernel
theorem dX4_hasSold_27 : decode cX4_hasSold 27 = .ok (.goto (-25), 3) := by decide +kernel
theorem dX4_hasSold_30 : decode cX4_hasSold 30 = .ok (.iconst 0, 1) := by decide +kernel
theorem dX4_hasSold_31 : decode cX4_hasSold 31 = .ok (.ireturn, 1) := by decide +kernel
theorem dX4_unitParts_0 : decode cX4_unitParts 0 = .ok (.iload_n 1, 1) := by decide +kernel
theorem dX4_unitParts_1 : decode cX4_unitParts 1 = .ok (.ifCond .ne 10, 3) := by decide +kernel
theorem dX4_unitParts_4 : decode cX4_unitParts 4 = .ok (.aload_n 0, 1) := by decide +kernel
theorem dX4_unitParts_5 : decode cX4_unitParts 5 = .ok (.getfield 42, 3) := by decide +kernel
theorem dX4_unitParts_8 : decode cX4_unitParts 8 = .ok (.goto 7, 3) := by decide +kernel
theorem dX4_unitParts_11 : decode cX4_unitParts 11 = .ok (.aload_n 0, 1) := by decide +kernel
theorem dX4_unitParts_12 : decode cX4_unitParts 12 = .ok (.getfield 45, 3) := by decide +kernel
theorem dX4_unitParts_15 : decode cX4_unitParts 15 = .ok (.ireturn, 1) := by decide +kernel
theorem dX4_spareParts_0 : decode cX4_spareParts 0 = .ok (.aload_n 0, 1) := by decide +kernel
theorem dX4_spareParts_1 : decode cX4_spareParts 1 = .ok (.iload_n 2, 1) := by decide +kernel
theorem dX4_spareParts_2 : decode cX4_spareParts 2 = .ok (.invokevirtual 72, 3) := by decide +kernel
theorem dX4_spareParts_5 : decode cX4_spareParts 5 = .ok (.astore 5, 2) := by decide +kernel
theorem dX4_spareParts_7 : decode cX4_spareParts 7 = .ok (.aload 5, 2) := by decide +kernel
theorem dX4_spareParts_9 : decode cX4_spareParts 9 = .ok (.ifnull 12, 3) := by decide +kernel
theorem dX4_spareParts_12 : decode cX4_spareParts 12 = .ok (.aload 5, 2) := by decide +kernel
theorem dX4_spareParts_14 : decode cX4_spareParts 14 = .ok (.iload_n 3, 1) := by decide +kernel
theorem dX4_spareParts_15 : decode cX4_spareParts 15 = .ok (.invokevirtual 76, 3) := by decide +kernel
theorem dX4_spareParts_18 : decode cX4_spareParts 18 = .ok (.ifCond .ne 5, 3) := by decide +kernel
theorem dX4_spareParts_21 : decode cX4_spareParts 21 = .ok (.iconst (-1), 1) := by decide +kernel
theorem dX4_spareParts_22 : decode cX4_spareParts 22 = .ok (.ireturn, 1) := by decide +kernel
theorem dX4_spareParts_23 : decode cX4_spareParts 23 = .ok (.iload 4, 2) := by decide +kernel
theorem dX4_spareParts_25 : decode cX4_spareParts 25 = .ok (.aload 5, 2) := by decide +kernel
theorem dX4_spareParts_27 : decode cX4_spareParts 27 = .ok (.getfield 86, 3) := by decide +kernel
theorem dX4_spareParts_30 : decode cX4_spareParts 30 = .ok (.iload_n 3, 1) := by decide +kernel
theorem dX4_spareParts_31 : decode cX4_spareParts 31 = .ok (.iaload, 1) := by decide +kernel
theorem dX4_spareParts_32 : decode cX4_spareParts 32 = .ok (.imul, 1) := by decide +kernel
theorem dX4_spareParts_33 : decode cX4_spareParts 33 = .ok (.aload_n 0, 1) := by decide +kernel
theorem dX4_spareParts_34 : decode cX4_spareParts 34 = .ok (.iload_n 2, 1) := by decide +kernel
theorem dX4_spareParts_35 : decode cX4_spareParts 35 = .ok (.invokevirtual 89, 3) := by decide +kernel
theorem dX4_spareParts_38 : decode cX4_spareParts 38 = .ok (.imul, 1) := by decide +kernel
theorem dX4_spareParts_39 : decode cX4_spareParts 39 = .ok (.iload_n 1, 1) := by decide +kernel
theorem dX4_spareParts_40 : decode cX4_spareParts 40 = .ok (.aload_n 0, 1) := by decide +kernel
theorem dX4_spareParts_41 : decode cX4_spareParts 41 = .ok (.getfield 45, 3) := by decide +kernel
theorem dX4_spareParts_44 : decode cX4_spareParts 44 = .ok (.imul, 1) := by decide +kernel
theorem dX4_spareParts_45 : decode cX4_spareParts 45 = .ok (.isub, 1) := by decide +kernel
theorem dX4_spareParts_46 : decode cX4_spareParts 46 = .ok (.ireturn, 1) := by decide +kernel
theorem dX4_partsOf_0 : decode cX4_partsOf 0 = .ok (.aload_n 0, 1) := by decide +kernel
theorem dX4_partsOf_1 : decode cX4_partsOf 1 = .ok (.iload_n 1, 1) := by decide +kernel
theorem dX4_partsOf_2 : decode cX4_partsOf 2 = .ok (.invokevirtual 72, 3) := by decide +kernel
theorem dX4_partsOf_5 : decode cX4_partsOf 5 = .ok (.astore_n 3, 1) := by decide +kernel
theorem dX4_partsOf_6 : decode cX4_partsOf 6 = .ok (.lconst 0, 1) := by decide +kernel
theorem dX4_partsOf_7 : decode cX4_partsOf 7 = .ok (.lstore 4, 2) := by decide +kernel
theorem dX4_partsOf_9 : decode cX4_partsOf 9 = .ok (.aload_n 3, 1) := by decide +kernel
theorem dX4_partsOf_10 : decode cX4_partsOf 10 = .ok (.ifnull 40, 3) := by decide +kernel
theorem dX4_partsOf_13 : decode cX4_partsOf 13 = .ok (.iconst 0, 1) := by decide +kernel
theorem dX4_partsOf_14 : decode cX4_partsOf 14 = .ok (.istore 6, 2) := by decide +kernel
theorem dX4_partsOf_16 : decode cX4_partsOf 16 = .ok (.iload 6, 2) := by decide +kernel
theorem dX4_partsOf_18 : decode cX4_partsOf 18 = .ok (.aload_n 3, 1) := by decide +kernel
theorem dX4_partsOf_19 : decode cX4_partsOf 19 = .ok (.getfield 93, 3) := by decide +kernel
theorem dX4_partsOf_22 : decode cX4_partsOf 22 = .ok (.if_icmp .ge 28, 3) := by decide +kernel
theorem dX4_partsOf_25 : decode cX4_partsOf 25 = .ok (.lload 4, 2) := by decide +kernel
theorem dX4_partsOf_27 : decode cX4_partsOf 27 = .ok (.aload_n 2, 1) := by decide +kernel
theorem dX4_partsOf_28 : decode cX4_partsOf 28 = .ok (.iload 6, 2) := by decide +kernel
theorem dX4_partsOf_30 : decode cX4_partsOf 30 = .ok (.iaload, 1) := by decide +kernel
theorem dX4_partsOf_31 : decode cX4_partsOf 31 = .ok (.i2l, 1) := by decide +kernel
theorem dX4_partsOf_32 : decode cX4_partsOf 32 = .ok (.aload_n 3, 1) := by decide +kernel
theorem dX4_partsOf_33 : decode cX4_partsOf 33 = .ok (.getfield 86, 3) := by decide +kernel
theorem dX4_partsOf_36 : decode cX4_partsOf 36 = .ok (.iload 6, 2) := by decide +kernel
theorem dX4_partsOf_38 : decode cX4_partsOf 38 = .ok (.iaload, 1) := by decide +kernel
theorem dX4_partsOf_39 : decode cX4_partsOf 39 = .ok (.i2l, 1) := by decide +kernel
theorem dX4_partsOf_40 : decode cX4_partsOf 40 = .ok (.lmul, 1) := by decide +kernel
theorem dX4_partsOf_41 : decode cX4_partsOf 41 = .ok (.ladd, 1) := by decide +kernel
theorem dX4_partsOf_42 : decode cX4_partsOf 42 = .ok (.lstore 4, 2) := by decide +kernel
theorem dX4_partsOf_44 : decode cX4_partsOf 44 = .ok (.iinc 6 1, 3) := by decide +kernel
theorem dX4_partsOf_47 : decode cX4_partsOf 47 = .ok (.goto (-31), 3) := by decide +kernel
theorem dX4_partsOf_50 : decode cX4_partsOf 50 = .ok (.lload 4, 2) := by decide +kernel
theorem dX4_partsOf_52 : decode cX4_partsOf 52 = .ok (.aload_n 0, 1) := by decide +kernel
theorem dX4_partsOf_53 : decode cX4_partsOf 53 = .ok (.iload_n 1, 1) := by decide +kernel
theorem dX4_partsOf_54 : decode cX4_partsOf 54 = .ok (.invokevirtual 89, 3) := by decide +kernel
theorem dX4_partsOf_57 : decode cX4_partsOf 57 = .ok (.i2l, 1) := by decide +kernel
theorem dX4_partsOf_58 : decode cX4_partsOf 58 = .ok (.lmul, 1) := by decide +kernel
theorem dX4_partsOf_59 : decode cX4_partsOf 59 = .ok (.lreturn, 1) := by decide +kernel
theorem dX4_newPrice_0 : decode cX4_newPrice 0 = .ok (.aload_n 0, 1) := by decide +kernel
theorem dX4_newPrice_1 : decode cX4_newPrice 1 = .ok (.getfield 24, 3) := by decide +kernel
theorem dX4_newPrice_4 : decode cX4_newPrice 4 = .ok (.getfield 96, 3) := by decide +kernel
theorem dX4_newPrice_7 : decode cX4_newPrice 7 = .ok (.iload_n 1, 1) := by decide +kernel
theorem dX4_newPrice_8 : decode cX4_newPrice 8 = .ok (.iaload, 1) := by decide +kernel
theorem dX4_newPrice_9 : decode cX4_newPrice 9 = .ok (.aload_n 0, 1) := by decide +kernel
theorem dX4_newPrice_10 : decode cX4_newPrice 10 = .ok (.getfield 42, 3) := by decide +kernel
theorem dX4_newPrice_13 : decode cX4_newPrice 13 = .ok (.imul, 1) := by decide +kernel
theorem dX4_newPrice_14 : decode cX4_newPrice 14 = .ok (.istore_n 3, 1) := by decide +kernel
theorem dX4_newPrice_15 : decode cX4_newPrice 15 = .ok (.aload_n 0, 1) := by decide +kernel
theorem dX4_newPrice_16 : decode cX4_newPrice 16 = .ok (.getfield 48, 3) := by decide +kernel
theorem dX4_newPrice_19 : decode cX4_newPrice 19 = .ok (.aload_n 0, 1) := by decide +kernel
theorem dX4_newPrice_20 : decode cX4_newPrice 20 = .ok (.getfield 45, 3) := by decide +kernel
theorem dX4_newPrice_23 : decode cX4_newPrice 23 = .ok (.imul, 1) := by decide +kernel
theorem dX4_newPrice_24 : decode cX4_newPrice 24 = .ok (.istore 4, 2) := by decide +kernel
theorem dX4_newPrice_26 : decode cX4_newPrice 26 = .ok (.iload_n 3, 1) := by decide +kernel
theorem dX4_newPrice_27 : decode cX4_newPrice 27 = .ok (.iload 4, 2) := by decide +kernel
theorem dX4_newPrice_29 : decode cX4_newPrice 29 = .ok (.invokestatic 99, 3) := by decide +kernel
theorem dX4_newPrice_32 : decode cX4_newPrice 32 = .ok (.istore 5, 2) := by decide +kernel
theorem dX4_newPrice_34 : decode cX4_newPrice 34 = .ok (.iload_n 3, 1) := by decide +kernel
theorem dX4_newPrice_35 : decode cX4_newPrice 35 = .ok (.iload 5, 2) := by decide +kernel
theorem dX4_newPrice_37 : decode cX4_newPrice 37 = .ok (.iload 4, 2) := by decide +kernel
theorem dX4_newPrice_39 : decode cX4_newPrice 39 = .ok (.imul, 1) := by decide +kernel
theorem dX4_newPrice_40 : decode cX4_newPrice 40 = .ok (.isub, 1) := by decide +kernel
theorem dX4_newPrice_41 : decode cX4_newPrice 41 = .ok (.istore 6, 2) := by decide +kernel
theorem dX4_newPrice_43 : decode cX4_newPrice 43 = .ok (.iload_n 2, 1) := by decide +kernel
theorem dX4_newPrice_44 : decode cX4_newPrice 44 = .ok (.iload 5, 2) := by decide +kernel
theorem dX4_newPrice_46 : decode cX4_newPrice 46 = .ok (.iload 6, 2) := by decide +kernel
theorem dX4_newPrice_48 : decode cX4_newPrice 48 = .ok (.iload 4, 2) := by decide +kernel
theorem dX4_newPrice_50 : decode cX4_newPrice 50 = .ok (.invokestatic 103, 3) := by decide +kernel
theorem dX4_newPrice_53 : decode cX4_newPrice 53 = .ok (.ifCond .eq 10, 3) := by decide +kernel
theorem dX4_newPrice_56 : decode cX4_newPrice 56 = .ok (.iload 5, 2) := by decide +kernel
theorem dX4_newPrice_58 : decode cX4_newPrice 58 = .ok (.iconst 1, 1) := by decide +kernel
theorem dX4_newPrice_59 : decode cX4_newPrice 59 = .ok (.iadd, 1) := by decide +kernel
theorem dX4_newPrice_60 : decode cX4_newPrice 60 = .ok (.goto 5, 3) := by decide +kernel
theorem dX4_newPrice_63 : decode cX4_newPrice 63 = .ok (.iload 5, 2) := by decide +kernel
theorem dX4_newPrice_65 : decode cX4_newPrice 65 = .ok (.aload_n 0, 1) := by decide +kernel
theorem dX4_newPrice_66 : decode cX4_newPrice 66 = .ok (.getfield 48, 3) := by decide +kernel
theorem dX4_newPrice_69 : decode cX4_newPrice 69 = .ok (.imul, 1) := by decide +kernel
theorem dX4_newPrice_70 : decode cX4_newPrice 70 = .ok (.ireturn, 1) := by decide +kernel
theorem dX4_roundsUp_0 : decode cX4_roundsUp 0 = .ok (.iload_n 0, 1) := by decide +kernel
theorem dX4_roundsUp_1 : decode cX4_roundsUp 1 = .ok (.tableswitch 77 1 3 #[27, 37, 50], 27) := by decide +kernel
theorem dX4_roundsUp_28 : decode cX4_roundsUp 28 = .ok (.iload_n 2, 1) := by decide +kernel
theorem dX4_roundsUp_29 : decode cX4_roundsUp 29 = .ok (.ifCond .le 7, 3) := by decide +kernel
theorem dX4_roundsUp_32 : decode cX4_roundsUp 32 = .ok (.iconst 1, 1) := by decide +kernel
theorem dX4_roundsUp_33 : decode cX4_roundsUp 33 = .ok (.goto 4, 3) := by decide +kernel
theorem dX4_roundsUp_36 : decode cX4_roundsUp 36 = .ok (.iconst 0, 1) := by decide +kernel
theorem dX4_roundsUp_37 : decode cX4_roundsUp 37 = .ok (.ireturn, 1) := by decide +kernel
theorem dX4_roundsUp_38 : decode cX4_roundsUp 38 = .ok (.iconst 2, 1) := by decide +kernel
theorem dX4_roundsUp_39 : decode cX4_roundsUp 39 = .ok (.iload_n 2, 1) := by decide +kernel
theorem dX4_roundsUp_40 : decode cX4_roundsUp 40 = .ok (.imul, 1) := by decide +kernel
theorem dX4_roundsUp_41 : decode cX4_roundsUp 41 = .ok (.iload_n 3, 1) := by decide +kernel
theorem dX4_roundsUp_42 : decode cX4_roundsUp 42 = .ok (.if_icmp .lt 7, 3) := by decide +kernel
theorem dX4_roundsUp_45 : decode cX4_roundsUp 45 = .ok (.iconst 1, 1) := by decide +kernel
theorem dX4_roundsUp_46 : decode cX4_roundsUp 46 = .ok (.goto 4, 3) := by decide +kernel
theorem dX4_roundsUp_49 : decode cX4_roundsUp 49 = .ok (.iconst 0, 1) := by decide +kernel
theorem dX4_roundsUp_50 : decode cX4_roundsUp 50 = .ok (.ireturn, 1) := by decide +kernel
theorem dX4_roundsUp_51 : decode cX4_roundsUp 51 = .ok (.iconst 2, 1) := by decide +kernel
theorem dX4_roundsUp_52 : decode cX4_roundsUp 52 = .ok (.iload_n 2, 1) := by decide +kernel
theorem dX4_roundsUp_53 : decode cX4_roundsUp 53 = .ok (.imul, 1) := by decide +kernel
theorem dX4_roundsUp_54 : decode cX4_roundsUp 54 = .ok (.iload_n 3, 1) := by decide +kernel
theorem dX4_roundsUp_55 : decode cX4_roundsUp 55 = .ok (.if_icmp .gt 17, 3) := by decide +kernel
theorem dX4_roundsUp_58 : decode cX4_roundsUp 58 = .ok (.iconst 2, 1) := by decide +kernel
theorem dX4_roundsUp_59 : decode cX4_roundsUp 59 = .ok (.iload_n 2, 1) := by decide +kernel
theorem dX4_roundsUp_60 : decode cX4_roundsUp 60 = .ok (.imul, 1) := by decide +kernel
theorem dX4_roundsUp_61 : decode cX4_roundsUp 61 = .ok (.iload_n 3, 1) := by decide +kernel
theorem dX4_roundsUp_62 : decode cX4_roundsUp 62 = .ok (.if_icmp .ne 14, 3) := by decide +kernel
theorem dX4_roundsUp_65 : decode cX4_roundsUp 65 = .ok (.iload_n 1, 1) := by decide +kernel
theorem dX4_roundsUp_66 : decode cX4_roundsUp 66 = .ok (.iconst 1, 1) := by decide +kernel
theorem dX4_roundsUp_67 : decode cX4_roundsUp 67 = .ok (.iand, 1) := by decide +kernel
theorem dX4_roundsUp_68 : decode cX4_roundsUp 68 = .ok (.iconst 1, 1) := by decide +kernel
theorem dX4_roundsUp_69 : decode cX4_roundsUp 69 = .ok (.if_icmp .ne 7, 3) := by decide +kernel
theorem dX4_roundsUp_72 : decode cX4_roundsUp 72 = .ok (.iconst 1, 1) := by decide +kernel
theorem dX4_roundsUp_73 : decode cX4_roundsUp 73 = .ok (.goto 4, 3) := by decide +kernel
theorem dX4_roundsUp_76 : decode cX4_roundsUp 76 = .ok (.iconst 0, 1) := by decide +kernel
theorem dX4_roundsUp_77 : decode cX4_roundsUp 77 = .ok (.ireturn, 1) := by decide +kernel
theorem dX4_roundsUp_78 : decode cX4_roundsUp 78 = .ok (.iconst 0, 1) := by decide +kernel
theorem dX4_roundsUp_79 : decode cX4_roundsUp 79 = .ok (.ireturn, 1) := by decide +kernel
theorem dX4_gainOf_0 : decode cX4_gainOf 0 = .ok (.aload_n 0, 1) := by decide +kernel
theorem dX4_gainOf_1 : decode cX4_gainOf 1 = .ok (.iload_n 1, 1) := by decide +kernel
theorem dX4_gainOf_2 : decode cX4_gainOf 2 = .ok (.iload_n 2, 1) := by decide +kernel
theorem dX4_gainOf_3 : decode cX4_gainOf 3 = .ok (.invokevirtual 107, 3) := by decide +kernel
theorem dX4_gainOf_6 : decode cX4_gainOf 6 = .ok (.i2l, 1) := by decide +kernel
theorem dX4_gainOf_7 : decode cX4_gainOf 7 = .ok (.aload_n 0, 1) := by decide +kernel
theorem dX4_gainOf_8 : decode cX4_gainOf 8 = .ok (.getfield 45, 3) := by decide +kernel
theorem dX4_gainOf_11 : decode cX4_gainOf 11 = .ok (.i2l, 1) := by decide +kernel
theorem dX4_gainOf_12 : decode cX4_gainOf 12 = .ok (.lmul, 1) := by decide +kernel
theorem dX4_gainOf_13 : decode cX4_gainOf 13 = .ok (.aload_n 0, 1) := by decide +kernel
theorem dX4_gainOf_14 : decode cX4_gainOf 14 = .ok (.getfield 24, 3) := by decide +kernel
theorem dX4_gainOf_17 : decode cX4_gainOf 17 = .ok (.getfield 96, 3) := by decide +kernel
theorem dX4_gainOf_20 : decode cX4_gainOf 20 = .ok (.iload_n 1, 1) := by decide +kernel
theorem dX4_gainOf_21 : decode cX4_gainOf 21 = .ok (.iaload, 1) := by decide +kernel
theorem dX4_gainOf_22 : decode cX4_gainOf 22 = .ok (.i2l, 1) := by decide +kernel
theorem dX4_gainOf_23 : decode cX4_gainOf 23 = .ok (.aload_n 0, 1) := by decide +kernel
theorem dX4_gainOf_24 : decode cX4_gainOf 24 = .ok (.getfield 42, 3) := by decide +kernel
theorem dX4_gainOf_27 : decode cX4_gainOf 27 = .ok (.i2l, 1) := by decide +kernel
theorem dX4_gainOf_28 : decode cX4_gainOf 28 = .ok (.lmul, 1) := by decide +kernel
theorem dX4_gainOf_29 : decode cX4_gainOf 29 = .ok (.lsub, 1) := by decide +kernel
theorem dX4_gainOf_30 : decode cX4_gainOf 30 = .ok (.lstore_n 3, 1) := by decide +kernel
theorem dX4_gainOf_31 : decode cX4_gainOf 31 = .ok (.lload_n 3, 1) := by decide +kernel
theorem dX4_gainOf_32 : decode cX4_gainOf 32 = .ok (.aload_n 0, 1) := by decide +kernel
theorem dX4_gainOf_33 : decode cX4_gainOf 33 = .ok (.getfield 24, 3) := by decide +kernel
theorem dX4_gainOf_36 : decode cX4_gainOf 36 = .ok (.getfield 110, 3) := by decide +kernel
theorem dX4_gainOf_39 : decode cX4_gainOf 39 = .ok (.iload_n 1, 1) := by decide +kernel
theorem dX4_gainOf_40 : decode cX4_gainOf 40 = .ok (.iaload, 1) := by decide +kernel
theorem dX4_gainOf_41 : decode cX4_gainOf 41 = .ok (.i2l, 1) := by decide +kernel
theorem dX4_gainOf_42 : decode cX4_gainOf 42 = .ok (.lmul, 1) := by decide +kernel
theorem dX4_gainOf_43 : decode cX4_gainOf 43 = .ok (.lreturn, 1) := by decide +kernel
theorem dX4_detail_0 : decode cX4_detail 0 = .ok (.iload_n 1, 1) := by decide +kernel
theorem dX4_detail_1 : decode cX4_detail 1 = .ok (.tableswitch 63 0 4 #[35, 43, 48, 53, 58], 35) := by decide +kernel
theorem dX4_detail_36 : decode cX4_detail 36 = .ok (.aload_n 0, 1) := by decide +kernel
theorem dX4_detail_37 : decode cX4_detail 37 = .ok (.getfield 24, 3) := by decide +kernel
theorem dX4_detail_40 : decode cX4_detail 40 = .ok (.getfield 113, 3) := by decide +kernel
theorem dX4_detail_43 : decode cX4_detail 43 = .ok (.ireturn, 1) := by decide +kernel
theorem dX4_detail_44 : decode cX4_detail 44 = .ok (.aload_n 0, 1) := by decide +kernel
theorem dX4_detail_45 : decode cX4_detail 45 = .ok (.getfield 38, 3) := by decide +kernel
theorem dX4_detail_48 : decode cX4_detail 48 = .ok (.ireturn, 1) := by decide +kernel
theorem dX4_detail_49 : decode cX4_detail 49 = .ok (.aload_n 0, 1) := by decide +kernel
theorem dX4_detail_50 : decode cX4_detail 50 = .ok (.getfield 42, 3) := by decide +kernel
theorem dX4_detail_53 : decode cX4_detail 53 = .ok (.ireturn, 1) := by decide +kernel
theorem dX4_detail_54 : decode cX4_detail 54 = .ok (.aload_n 0, 1) := by decide +kernel
theorem dX4_detail_55 : decode cX4_detail 55 = .ok (.getfield 45, 3) := by decide +kernel
theorem dX4_detail_58 : decode cX4_detail 58 = .ok (.ireturn, 1) := by decide +kernel
theorem dX4_detail_59 : decode cX4_detail 59 = .ok (.aload_n 0, 1) := by decide +kernel
theorem dX4_detail_60 : decode cX4_detail 60 = .ok (.getfield 48, 3) := by decide +kernel
theorem dX4_detail_63 : decode cX4_detail 63 = .ok (.ireturn, 1) := by decide +kernel
theorem dX4_detail_64 : decode cX4_detail 64 = .ok (.aload_n 0, 1) := by decide +kernel
theorem dX4_detail_65 : decode cX4_detail 65 = .ok (.iload_n 1, 1) := by decide +kernel
theorem dX4_detail_66 : decode cX4_detail 66 = .ok (.invokevirtual 114, 3) := by decide +kernel
theorem dX4_detail_69 : decode cX4_detail 69 = .ok (.ireturn, 1) := by decide +kernel
theorem dX4_goodDetail_0 : decode cX4_goodDetail 0 = .ok (.aload_n 0, 1) := by decide +kernel
theorem dX4_goodDetail_1 : decode cX4_goodDetail 1 = .ok (.getfield 24, 3) := by decide +kernel
theorem dX4_goodDetail_4 : decode cX4_goodDetail 4 = .ok (.iload_n 1, 1) := by decide +kernel
theorem dX4_goodDetail_5 : decode cX4_goodDetail 5 = .ok (.bipush 10, 2) := by decide +kernel
theorem dX4_goodDetail_7 : decode cX4_goodDetail 7 = .ok (.isub, 1) := by decide +kernel
theorem dX4_goodDetail_8 : decode cX4_goodDetail 8 = .ok (.invokevirtual 117, 3) := by decide +kernel
theorem dX4_goodDetail_11 : decode cX4_goodDetail 11 = .ok (.ifCond .eq 16, 3) := by decide +kernel
theorem dX4_goodDetail_14 : decode cX4_goodDetail 14 = .ok (.aload_n 0, 1) := by decide +kernel
theorem dX4_goodDetail_15 : decode cX4_goodDetail 15 = .ok (.getfield 24, 3) := by decide +kernel
theorem dX4_goodDetail_18 : decode cX4_goodDetail 18 = .ok (.getfield 96, 3) := by decide +kernel
theorem dX4_goodDetail_21 : decode cX4_goodDetail 21 = .ok (.iload_n 1, 1) := by decide +kernel
theorem dX4_goodDetail_22 : decode cX4_goodDetail 22 = .ok (.bipush 10, 2) := by decide +kernel
theorem dX4_goodDetail_24 : decode cX4_goodDetail 24 = .ok (.isub, 1) := by decide +kernel
theorem dX4_goodDetail_25 : decode cX4_goodDetail 25 = .ok (.iaload, 1) := by decide +kernel
theorem dX4_goodDetail_26 : decode cX4_goodDetail 26 = .ok (.ireturn, 1) := by decide +kernel
theorem dX4_goodDetail_27 : decode cX4_goodDetail 27 = .ok (.aload_n 0, 1) := by decide +kernel
theorem dX4_goodDetail_28 : decode cX4_goodDetail 28 = .ok (.getfield 24, 3) := by decide +kernel
theorem dX4_goodDetail_31 : decode cX4_goodDetail 31 = .ok (.iload_n 1, 1) := by decide +kernel
theorem dX4_goodDetail_32 : decode cX4_goodDetail 32 = .ok (.bipush 30, 2) := by decide +kernel
theorem dX4_goodDetail_34 : decode cX4_goodDetail 34 = .ok (.isub, 1) := by decide +kernel
theorem dX4_goodDetail_35 : decode cX4_goodDetail 35 = .ok (.invokevirtual 117, 3) := by decide +kernel
theorem dX4_goodDetail_38 : decode cX4_goodDetail 38 = .ok (.ifCond .eq 18, 3) := by decide +kernel
theorem dX4_goodDetail_41 : decode cX4_goodDetail 41 = .ok (.aload_n 0, 1) := by decide +kernel
theorem dX4_goodDetail_42 : decode cX4_goodDetail 42 = .ok (.getfield 24, 3) := by decide +kernel
theorem dX4_goodDetail_45 : decode cX4_goodDetail 45 = .ok (.getfield 110, 3) := by decide +kernel
theorem dX4_goodDetail_48 : decode cX4_goodDetail 48 = .ok (.iload_n 1, 1) := by decide +kernel
theorem dX4_goodDetail_49 : decode cX4_goodDetail 49 = .ok (.bipush 30, 2) := by decide +kernel
theorem dX4_goodDetail_51 : decode cX4_goodDetail 51 = .ok (.isub, 1) := by decide +kernel
theorem dX4_goodDetail_52 : decode cX4_goodDetail 52 = .ok (.iaload, 1) := by decide +kernel
theorem dX4_goodDetail_53 : decode cX4_goodDetail 53 = .ok (.goto 4, 3) := by decide +kernel
theorem dX4_goodDetail_56 : decode cX4_goodDetail 56 = .ok (.iconst (-1), 1) := by decide +kernel
theorem dX4_goodDetail_57 : decode cX4_goodDetail 57 = .ok (.ireturn, 1) := by decide +kernel
theorem dX5_init_0 : decode cX5_init 0 = .ok (.aload_n 0, 1) := by decide +kernel
theorem dX5_init_1 : decode cX5_init 1 = .ok (.invokespecial 3, 3) := by decide +kernel
theorem dX5_init_4 : decode cX5_init 4 = .ok (.aload_n 0, 1) := by decide +kernel
theorem dX5_init_5 : decode cX5_init 5 = .ok (.bipush 8, 2) := by decide +kernel
theorem dX5_init_7 : decode cX5_init 7 = .ok (.newarray .int, 2) := by decide +kernel
theorem dX5_init_9 : decode cX5_init 9 = .ok (.putfield 9, 3) := by decide +kernel
theorem dX5_init_12 : decode cX5_init 12 = .ok (.aload_n 0, 1) := by decide +kernel
theorem dX5_init_13 : decode cX5_init 13 = .ok (.bipush 8, 2) := by decide +kernel
theorem dX5_init_15 : decode cX5_init 15 = .ok (.newarray .int, 2) := by decide +kernel
theorem dX5_init_17 : decode cX5_init 17 = .ok (.putfield 15, 3) := by decide +kernel
theorem dX5_init_20 : decode cX5_init 20 = .ok (.aload_n 0, 1) := by decide +kernel
theorem dX5_init_21 : decode cX5_init 21 = .ok (.bipush 8, 2) := by decide +kernel
theorem dX5_init_23 : decode cX5_init 23 = .ok (.newarray .int, 2) := by decide +kernel
theorem dX5_init_25 : decode cX5_init 25 = .ok (.putfield 18, 3) := by decide +kernel
theorem dX5_init_28 : decode cX5_init 28 = .ok (.aload_n 0, 1) := by decide +kernel
theorem dX5_init_29 : decode cX5_init 29 = .ok (.new 21, 3) := by decide +kernel
theorem dX5_init_32 : decode cX5_init 32 = .ok (.dup, 1) := by decide +kernel
theorem dX5_init_33 : decode cX5_init 33 = .ok (.invokespecial 23, 3) := by decide +kernel
theorem dX5_init_36 : decode cX5_init 36 = .ok (.putfield 24, 3) := by decide +kernel
theorem dX5_init_39 : decode cX5_init 39 = .ok (.aload_n 0, 1) := by decide +kernel
theorem dX5_init_40 : decode cX5_init 40 = .ok (.iconst 0, 1) := by decide +kernel
theorem dX5_init_41 : decode cX5_init 41 = .ok (.putfield 28, 3) := by decide +kernel
theorem dX5_init_44 : decode cX5_init 44 = .ok (.aload_n 0, 1) := by decide +kernel
theorem dX5_init_45 : decode cX5_init 45 = .ok (.lconst 0, 1) := by decide +kernel
theorem dX5_init_46 : decode cX5_init 46 = .ok (.putfield 32, 3) := by decide +kernel
theorem dX5_init_49 : decode cX5_init 49 = .ok (.aload_n 0, 1) := by decide +kernel
theorem dX5_init_50 : decode cX5_init 50 = .ok (.lconst 0, 1) := by decide +kernel
theorem dX5_init_51 : decode cX5_init 51 = .ok (.putfield 36, 3) := by decide +kernel
theorem dX5_init_54 : decode cX5_init 54 = .ok (.return_, 1) := by decide +kernel
theorem dX5_copyFrom_0 : decode cX5_copyFrom 0 = .ok (.aload_n 1, 1) := by decide +kernel
theorem dX5_copyFrom_1 : decode cX5_copyFrom 1 = .ok (.getfield 9, 3) := by decide +kernel
theorem dX5_copyFrom_4 : decode cX5_copyFrom 4 = .ok (.iconst 0, 1) := by decide +kernel
theorem dX5_copyFrom_5 : decode cX5_copyFrom 5 = .ok (.aload_n 0, 1) := by decide +kernel
theorem dX5_copyFrom_6 : decode cX5_copyFrom 6 = .ok (.getfield 9, 3) := by decide +kernel
theorem dX5_copyFrom_9 : decode cX5_copyFrom 9 = .ok (.iconst 0, 1) := by decide +kernel
theorem dX5_copyFrom_10 : decode cX5_copyFrom 10 = .ok (.bipush 8, 2) := by decide +kernel
theorem dX5_copyFrom_12 : decode cX5_copyFrom 12 = .ok (.invokestatic 39, 3) := by decide +kernel
theorem dX5_copyFrom_15 : decode cX5_copyFrom 15 = .ok (.aload_n 1, 1) := by decide +kernel
theorem dX5_copyFrom_16 : decode cX5_copyFrom 16 = .ok (.getfield 15, 3) := by decide +kernel
theorem dX5_copyFrom_19 : decode cX5_copyFrom 19 = .ok (.iconst 0, 1) := by decide +kernel
theorem dX5_copyFrom_20 : decode cX5_copyFrom 20 = .ok (.aload_n 0, 1) := by decide +kernel
theorem dX5_copyFrom_21 : decode cX5_copyFrom 21 = .ok (.getfield 15, 3) := by decide +kernel
theorem dX5_copyFrom_24 : decode cX5_copyFrom 24 = .ok (.iconst 0, 1) := by decide +kernel
theorem dX5_copyFrom_25 : decode cX5_copyFrom 25 = .ok (.bipush 8, 2) := by decide +kernel
theorem dX5_copyFrom_27 : decode cX5_copyFrom 27 = .ok (.invokestatic 39, 3) := by decide +kernel
theorem dX5_copyFrom_30 : decode cX5_copyFrom 30 = .ok (.aload_n 1, 1) := by decide +kernel
theorem dX5_copyFrom_31 : decode cX5_copyFrom 31 = .ok (.getfield 18, 3) := by decide +kernel
theorem dX5_copyFrom_34 : decode cX5_copyFrom 34 = .ok (.iconst 0, 1) := by decide +kernel
theorem dX5_copyFrom_35 : decode cX5_copyFrom 35 = .ok (.aload_n 0, 1) := by decide +kernel
theorem dX5_copyFrom_36 : decode cX5_copyFrom 36 = .ok (.getfield 18, 3) := by decide +kernel
theorem dX5_copyFrom_39 : decode cX5_copyFrom 39 = .ok (.iconst 0, 1) := by decide +kernel
theorem dX5_copyFrom_40 : decode cX5_copyFrom 40 = .ok (.bipush 8, 2) := by decide +kernel
theorem dX5_copyFrom_42 : decode cX5_copyFrom 42 = .ok (.invokestatic 39, 3) := by decide +kernel
theorem dX5_copyFrom_45 : decode cX5_copyFrom 45 = .ok (.aload_n 0, 1) := by decide +kernel
theorem dX5_copyFrom_46 : decode cX5_copyFrom 46 = .ok (.getfield 24, 3) := by decide +kernel
theorem dX5_copyFrom_49 : decode cX5_copyFrom 49 = .ok (.aload_n 1, 1) := by decide +kernel
theorem dX5_copyFrom_50 : decode cX5_copyFrom 50 = .ok (.getfield 24, 3) := by decide +kernel
theorem dX5_copyFrom_53 : decode cX5_copyFrom 53 = .ok (.invokevirtual 45, 3) := by decide +kernel
theorem dX5_copyFrom_56 : decode cX5_copyFrom 56 = .ok (.aload_n 0, 1) := by decide +kernel
theorem dX5_copyFrom_57 : decode cX5_copyFrom 57 = .ok (.aload_n 1, 1) := by decide +kernel
theorem dX5_copyFrom_58 : decode cX5_copyFrom 58 = .ok (.getfield 28, 3) := by decide +kernel
theorem dX5_copyFrom_61 : decode cX5_copyFrom 61 = .ok (.putfield 28, 3) := by decide +kernel
theorem dX5_copyFrom_64 : decode cX5_copyFrom 64 = .ok (.aload_n 0, 1) := by decide +kernel
theorem dX5_copyFrom_65 : decode cX5_copyFrom 65 = .ok (.aload_n 1, 1) := by decide +kernel
theorem dX5_copyFrom_66 : decode cX5_copyFrom 66 = .ok (.getfield 32, 3) := by decide +kernel
theorem dX5_copyFrom_69 : decode cX5_copyFrom 69 = .ok (.putfield 32, 3) := by decide +kernel
theorem dX5_copyFrom_72 : decode cX5_copyFrom 72 = .ok (.aload_n 0, 1) := by decide +kernel
theorem dX5_copyFrom_73 : decode cX5_copyFrom 73 = .ok (.aload_n 1, 1) := by decide +kernel
theorem dX5_copyFrom_74 : decode cX5_copyFrom 74 = .ok (.getfield 36, 3) := by decide +kernel
theorem dX5_copyFrom_77 : decode cX5_copyFrom 77 = .ok (.putfield 36, 3) := by decide +kernel
theorem dX5_copyFrom_80 : decode cX5_copyFrom 80 = .ok (.return_, 1) := by decide +kernel
theorem dX5_countsOf_0 : decode cX5_countsOf 0 = .ok (.iload_n 1, 1) := by decide +kernel
theorem dX5_countsOf_1 : decode cX5_countsOf 1 = .ok (.ifCond .ne 10, 3) := by decide +kernel
theorem dX5_countsOf_4 : decode cX5_countsOf 4 = .ok (.aload_n 0, 1) := by decide +kernel
theorem dX5_countsOf_5 : decode cX5_countsOf 5 = .ok (.getfield 9, 3) := by decide +kernel
theorem dX5_countsOf_8 : decode cX5_countsOf 8 = .ok (.goto 7, 3) := by decide +kernel
theorem dX5_countsOf_11 : decode cX5_countsOf 11 = .ok (.aload_n 0, 1) := by decide +kernel
theorem dX5_countsOf_12 : decode cX5_countsOf 12 = .ok (.getfield 15, 3) := by decide +kernel
theorem dX5_countsOf_15 : decode cX5_countsOf 15 = .ok (.areturn, 1) := by decide +kernel
theorem dX5_close_0 : decode cX5_close 0 = .ok (.iconst 0, 1) := by decide +kernel
theorem dX5_close_1 : decode cX5_close 1 = .ok (.istore 4, 2) := by decide +kernel
theorem dX5_close_3 : decode cX5_close 3 = .ok (.iload 4, 2) := by decide +kernel
theorem dX5_close_5 : decode cX5_close 5 = .ok (.bipush 8, 2) := by decide +kernel
theorem dX5_close_7 : decode cX5_close 7 = .ok (.if_icmp .ge 34, 3) := by decide +kernel
theorem dX5_close_10 : decode cX5_close 10 = .ok (.aload_n 0, 1) := by decide +kernel
theorem dX5_close_11 : decode cX5_close 11 = .ok (.getfield 15, 3) := by decide +kernel
theorem dX5_close_14 : decode cX5_close 14 = .ok (.iload 4, 2) := by decide +kernel
theorem dX5_close_16 : decode cX5_close 16 = .ok (.dup2, 1) := by decide +kernel
theorem dX5_close_17 : decode cX5_close 17 = .ok (.iaload, 1) := by decide +kernel
theorem dX5_close_18 : decode cX5_close 18 = .ok (.aload_n 3, 1) := by decide +kernel
theorem dX5_close_19 : decode cX5_close 19 = .ok (.iload 4, 2) := by decide +kernel
theorem dX5_close_21 : decode cX5_close 21 = .ok (.iaload, 1) := by decide +kernel
theorem dX5_close_22 : decode cX5_close 22 = .ok (.isub, 1) := by decide +kernel
theorem dX5_close_23 : decode cX5_close 23 = .ok (.iastore, 1) := by decide +kernel
theorem dX5_close_24 : decode cX5_close 24 = .ok (.aload_n 0, 1) := by decide +kernel
theorem dX5_close_25 : decode cX5_close 25 = .ok (.getfield 18, 3) := by decide +kernel
theorem dX5_close_28 : decode cX5_close 28 = .ok (.iload 4, 2) := by decide +kernel
theorem dX5_close_30 : decode cX5_close 30 = .ok (.aload_n 3, 1) := by decide +kernel
theorem dX5_close_31 : decode cX5_close 31 = .ok (.iload 4, 2) := by decide +kernel
theorem dX5_close_33 : decode cX5_close 33 = .ok (.iaload, 1) := by decide +kernel
theorem dX5_close_34 : decode cX5_close 34 = .ok (.iastore, 1) := by decide +kernel
theorem dX5_close_35 : decode cX5_close 35 = .ok (.iinc 4 1, 3) := by decide +kernel
theorem dX5_close_38 : decode cX5_close 38 = .ok (.goto (-35), 3) := by decide +kernel
theorem dX5_close_41 : decode cX5_close 41 = .ok (.aload_n 0, 1) := by decide +kernel
theorem dX5_close_42 : decode cX5_close 42 = .ok (.dup, 1) := by decide +kernel
theorem dX5_close_43 : decode cX5_close 43 = .ok (.getfield 28, 3) := by decide +kernel
theorem dX5_close_46 : decode cX5_close 46 = .ok (.iconst 1, 1) := by decide +kernel
theorem dX5_close_47 : decode cX5_close 47 = .ok (.iadd, 1) := by decide +kernel
theorem dX5_close_48 : decode cX5_close 48 = .ok (.putfield 28, 3) := by decide +kernel
theorem dX5_close_51 : decode cX5_close 51 = .ok (.aload_n 0, 1) := by decide +kernel
theorem dX5_close_52 : decode cX5_close 52 = .ok (.dup, 1) := by decide +kernel
theorem dX5_close_53 : decode cX5_close 53 = .ok (.getfield 32, 3) := by decide +kernel
theorem dX5_close_56 : decode cX5_close 56 = .ok (.iload_n 2, 1) := by decide +kernel
theorem dX5_close_57 : decode cX5_close 57 = .ok (.i2l, 1) := by decide +kernel
theorem dX5_close_58 : decode cX5_close 58 = .ok (.ladd, 1) := by decide +kernel
theorem dX5_close_59 : decode cX5_close 59 = .ok (.putfield 32, 3) := by decide +kernel
theorem dX5_close_62 : decode cX5_close 62 = .ok (.aload_n 0, 1) := by decide +kernel
theorem dX5_close_63 : decode cX5_close 63 = .ok (.dup, 1) := by decide +kernel
theorem dX5_close_64 : decode cX5_close 64 = .ok (.getfield 36, 3) := by decide +kernel
theorem dX5_close_67 : decode cX5_close 67 = .ok (.iload_n 1, 1) := by decide +kernel
theorem dX5_close_68 : decode cX5_close 68 = .ok (.i2l, 1) := by decide +kernel
theorem dX5_close_69 : decode cX5_close 69 = .ok (.ladd, 1) := by decide +kernel
theorem dX5_close_70 : decode cX5_close 70 = .ok (.putfield 36, 3) := by decide +kernel
theorem dX5_close_73 : decode cX5_close 73 = .ok (.return_, 1) := by decide +kernel
theorem dJ6_bitCount_0f7a4_0 : decode cJ6_bitCount_0f7a4 0 = .ok (.iload_n 0, 1) := by decide +kernel
theorem dJ6_bitCount_0f7a4_1 : decode cJ6_bitCount_0f7a4 1 = .ok (.iload_n 0, 1) := by decide +kernel
theorem dJ6_bitCount_0f7a4_2 : decode cJ6_bitCount_0f7a4 2 = .ok (.iconst 1, 1) := by decide +kernel
theorem dJ6_bitCount_0f7a4_3 : decode cJ6_bitCount_0f7a4 3 = .ok (.iushr, 1) := by decide +kernel
theorem dJ6_bitCount_0f7a4_4 : decode cJ6_bitCount_0f7a4 4 = .ok (.ldc_w 265, 3) := by decide +kernel
theorem dJ6_bitCount_0f7a4_7 : decode cJ6_bitCount_0f7a4 7 = .ok (.iand, 1) := by decide +kernel
theorem dJ6_bitCount_0f7a4_8 : decode cJ6_bitCount_0f7a4 8 = .ok (.isub, 1) := by decide +kernel
theorem dJ6_bitCount_0f7a4_9 : decode cJ6_bitCount_0f7a4 9 = .ok (.istore_n 0, 1) := by decide +kernel
theorem dJ6_bitCount_0f7a4_10 : decode cJ6_bitCount_0f7a4 10 = .ok (.iload_n 0, 1) := by decide +kernel
theorem dJ6_bitCount_0f7a4_11 : decode cJ6_bitCount_0f7a4 11 = .ok (.ldc_w 266, 3) := by decide +kernel
theorem dJ6_bitCount_0f7a4_14 : decode cJ6_bitCount_0f7a4 14 = .ok (.iand, 1) := by decide +kernel
theorem dJ6_bitCount_0f7a4_15 : decode cJ6_bitCount_0f7a4 15 = .ok (.iload_n 0, 1) := by decide +kernel
theorem dJ6_bitCount_0f7a4_16 : decode cJ6_bitCount_0f7a4 16 = .ok (.iconst 2, 1) := by decide +kernel
theorem dJ6_bitCount_0f7a4_17 : decode cJ6_bitCount_0f7a4 17 = .ok (.iushr, 1) := by decide +kernel
theorem dJ6_bitCount_0f7a4_18 : decode cJ6_bitCount_0f7a4 18 = .ok (.ldc_w 266, 3) := by decide +kernel
theorem dJ6_bitCount_0f7a4_21 : decode cJ6_bitCount_0f7a4 21 = .ok (.iand, 1) := by decide +kernel
theorem dJ6_bitCount_0f7a4_22 : decode cJ6_bitCount_0f7a4 22 = .ok (.iadd, 1) := by decide +kernel
theorem dJ6_bitCount_0f7a4_23 : decode cJ6_bitCount_0f7a4 23 = .ok (.istore_n 0, 1) := by decide +kernel
theorem dJ6_bitCount_0f7a4_24 : decode cJ6_bitCount_0f7a4 24 = .ok (.iload_n 0, 1) := by decide +kernel
theorem dJ6_bitCount_0f7a4_25 : decode cJ6_bitCount_0f7a4 25 = .ok (.iload_n 0, 1) := by decide +kernel
theorem dJ6_bitCount_0f7a4_26 : decode cJ6_bitCount_0f7a4 26 = .ok (.iconst 4, 1) := by decide +kernel
theorem dJ6_bitCount_0f7a4_27 : decode cJ6_bitCount_0f7a4 27 = .ok (.iushr, 1) := by decide +kernel
theorem dJ6_bitCount_0f7a4_28 : decode cJ6_bitCount_0f7a4 28 = .ok (.iadd, 1) := by decide +kernel
theorem dJ6_bitCount_0f7a4_29 : decode cJ6_bitCount_0f7a4 29 = .ok (.ldc_w 267, 3) := by decide +kernel
theorem dJ6_bitCount_0f7a4_32 : decode cJ6_bitCount_0f7a4 32 = .ok (.iand, 1) := by decide +kernel
theorem dJ6_bitCount_0f7a4_33 : decode cJ6_bitCount_0f7a4 33 = .ok (.istore_n 0, 1) := by decide +kernel
theorem dJ6_bitCount_0f7a4_34 : decode cJ6_bitCount_0f7a4 34 = .ok (.iload_n 0, 1) := by decide +kernel
theorem dJ6_bitCount_0f7a4_35 : decode cJ6_bitCount_0f7a4 35 = .ok (.iload_n 0, 1) := by decide +kernel
theorem dJ6_bitCount_0f7a4_36 : decode cJ6_bitCount_0f7a4 36 = .ok (.bipush 8, 2) := by decide +kernel
theorem dJ6_bitCount_0f7a4_38 : decode cJ6_bitCount_0f7a4 38 = .ok (.iushr, 1) := by decide +kernel
theorem dJ6_bitCount_0f7a4_39 : decode cJ6_bitCount_0f7a4 39 = .ok (.iadd, 1) := by decide +kernel
theorem dJ6_bitCount_0f7a4_40 : decode cJ6_bitCount_0f7a4 40 = .ok (.istore_n 0, 1) := by decide +kernel
theorem dJ6_bitCount_0f7a4_41 : decode cJ6_bitCount_0f7a4 41 = .ok (.iload_n 0, 1) := by decide +kernel
theorem dJ6_bitCount_0f7a4_42 : decode cJ6_bitCount_0f7a4 42 = .ok (.iload_n 0, 1) := by decide +kernel
theorem dJ6_bitCount_0f7a4_43 : decode cJ6_bitCount_0f7a4 43 = .ok (.bipush 16, 2) := by decide +kernel
theorem dJ6_bitCount_0f7a4_45 : decode cJ6_bitCount_0f7a4 45 = .ok (.iushr, 1) := by decide +kernel
theorem dJ6_bitCount_0f7a4_46 : decode cJ6_bitCount_0f7a4 46 = .ok (.iadd, 1) := by decide +kernel
theorem dJ6_bitCount_0f7a4_47 : decode cJ6_bitCount_0f7a4 47 = .ok (.istore_n 0, 1) := by decide +kernel
theorem dJ6_bitCount_0f7a4_48 : decode cJ6_bitCount_0f7a4 48 = .ok (.iload_n 0, 1) := by decide +kernel
theorem dJ6_bitCount_0f7a4_49 : decode cJ6_bitCount_0f7a4 49 = .ok (.bipush 63, 2) := by decide +kernel
theorem dJ6_bitCount_0f7a4_51 : decode cJ6_bitCount_0f7a4 51 = .ok (.iand, 1) := by decide +kernel
theorem dJ6_bitCount_0f7a4_52 : decode cJ6_bitCount_0f7a4 52 = .ok (.ireturn, 1) := by decide +kernel
theorem dJ9_abs_067f4_0 : decode cJ9_abs_067f4 0 = .ok (.lload_n 0, 1) := by decide +kernel
theorem dJ9_abs_067f4_1 : decode cJ9_abs_067f4 1 = .ok (.lconst 0, 1) := by decide +kernel
theorem dJ9_abs_067f4_2 : decode cJ9_abs_067f4 2 = .ok (.lcmp, 1) := by decide +kernel
theorem dJ9_abs_067f4_3 : decode cJ9_abs_067f4 3 = .ok (.ifCond .ge 8, 3) := by decide +kernel
theorem dJ9_abs_067f4_6 : decode cJ9_abs_067f4 6 = .ok (.lload_n 0, 1) := by decide +kernel
theorem dJ9_abs_067f4_7 : decode cJ9_abs_067f4 7 = .ok (.lneg, 1) := by decide +kernel
theorem dJ9_abs_067f4_8 : decode cJ9_abs_067f4 8 = .ok (.goto 4, 3) := by decide +kernel
theorem dJ9_abs_067f4_11 : decode cJ9_abs_067f4 11 = .ok (.lload_n 0, 1) := by decide +kernel
theorem dJ9_abs_067f4_12 : decode cJ9_abs_067f4 12 = .ok (.lreturn, 1) := by decide +kernel
theorem dJ9_max_7cf53_0 : decode cJ9_max_7cf53 0 = .ok (.iload_n 0, 1) := by decide +kernel
theorem dJ9_max_7cf53_1 : decode cJ9_max_7cf53 1 = .ok (.iload_n 1, 1) := by decide +kernel
theorem dJ9_max_7cf53_2 : decode cJ9_max_7cf53 2 = .ok (.if_icmp .lt 7, 3) := by decide +kernel
theorem dJ9_max_7cf53_5 : decode cJ9_max_7cf53 5 = .ok (.iload_n 0, 1) := by decide +kernel
theorem dJ9_max_7cf53_6 : decode cJ9_max_7cf53 6 = .ok (.goto 4, 3) := by decide +kernel
theorem dJ9_max_7cf53_9 : decode cJ9_max_7cf53 9 = .ok (.iload_n 1, 1) := by decide +kernel
theorem dJ9_max_7cf53_10 : decode cJ9_max_7cf53 10 = .ok (.ireturn, 1) := by decide +kernel
theorem dJ9_min_7cf53_0 : decode cJ9_min_7cf53 0 = .ok (.iload_n 0, 1) := by decide +kernel
theorem dJ9_min_7cf53_1 : decode cJ9_min_7cf53 1 = .ok (.iload_n 1, 1) := by decide +kernel
theorem dJ9_min_7cf53_2 : decode cJ9_min_7cf53 2 = .ok (.if_icmp .gt 7, 3) := by decide +kernel
theorem dJ9_min_7cf53_5 : decode cJ9_min_7cf53 5 = .ok (.iload_n 0, 1) := by decide +kernel
theorem dJ9_min_7cf53_6 : decode cJ9_min_7cf53 6 = .ok (.goto 4, 3) := by decide +kernel
theorem dJ9_min_7cf53_9 : decode cJ9_min_7cf53 9 = .ok (.iload_n 1, 1) := by decide +kernel
theorem dJ9_min_7cf53_10 : decode cJ9_min_7cf53 10 = .ok (.ireturn, 1) := by decide +kernel
theorem dJ7_fill_53178_0 : decode cJ7_fill_53178 0 = .ok (.iconst 0, 1) := by decide +kernel
theorem dJ7_fill_53178_1 : decode cJ7_fill_53178 1 = .ok (.istore_n 2, 1) := by decide +kernel
theorem dJ7_fill_53178_2 : decode cJ7_fill_53178 2 = .ok (.aload_n 0, 1) := by decide +kernel
theorem dJ7_fill_53178_3 : decode cJ7_fill_53178 3 = .ok (.arraylength, 1) := by decide +kernel
theorem dJ7_fill_53178_4 : decode cJ7_fill_53178 4 = .ok (.istore_n 3, 1) := by decide +kernel
theorem dJ7_fill_53178_5 : decode cJ7_fill_53178 5 = .ok (.iload_n 2, 1) := by decide +kernel
theorem dJ7_fill_53178_6 : decode cJ7_fill_53178 6 = .ok (.iload_n 3, 1) := by decide +kernel
theorem dJ7_fill_53178_7 : decode cJ7_fill_53178 7 = .ok (.if_icmp .ge 13, 3) := by decide +kernel
theorem dJ7_fill_53178_10 : decode cJ7_fill_53178 10 = .ok (.aload_n 0, 1) := by decide +kernel
theorem dJ7_fill_53178_11 : decode cJ7_fill_53178 11 = .ok (.iload_n 2, 1) := by decide +kernel
theorem dJ7_fill_53178_12 : decode cJ7_fill_53178 12 = .ok (.iload_n 1, 1) := by decide +kernel
theorem dJ7_fill_53178_13 : decode cJ7_fill_53178 13 = .ok (.iastore, 1) := by decide +kernel
theorem dJ7_fill_53178_14 : decode cJ7_fill_53178 14 = .ok (.iinc 2 1, 3) := by decide +kernel
theorem dJ7_fill_53178_17 : decode cJ7_fill_53178 17 = .ok (.goto (-12), 3) := by decide +kernel
theorem dJ7_fill_53178_20 : decode cJ7_fill_53178 20 = .ok (.return_, 1) := by decide +kernel
end
section
theorem dX6_init_0 : decode cX6_init 0 = .ok (.aload_n 0, 1) := by decide +kernel
theorem dX6_init_1 : decode cX6_init 1 = .ok (.invokespecial 1, 3) := by decide +kernel
theorem dX6_init_4 : decode cX6_init 4 = .ok (.aload_n 0, 1) := by decide +kernel
theorem dX6_init_5 : decode cX6_init 5 = .ok (.new 7, 3) := by decide +kernel
theorem dX6_init_8 : decode cX6_init 8 = .ok (.dup, 1) := by decide +kernel
theorem dX6_init_9 : decode cX6_init 9 = .ok (.invokespecial 9, 3) := by decide +kernel
theorem dX6_init_12 : decode cX6_init 12 = .ok (.putfield 10, 3) := by decide +kernel
theorem dX6_init_15 : decode cX6_init 15 = .ok (.aload_n 0, 1) := by decide +kernel
theorem dX6_init_16 : decode cX6_init 16 = .ok (.iconst 3, 1) := by decide +kernel
theorem dX6_init_17 : decode cX6_init 17 = .ok (.anewarray 7, 3) := by decide +kernel
theorem dX6_init_20 : decode cX6_init 20 = .ok (.putfield 16, 3) := by decide +kernel
theorem dX6_init_23 : decode cX6_init 23 = .ok (.aload_n 0, 1) := by decide +kernel
theorem dX6_init_24 : decode cX6_init 24 = .ok (.iconst 3, 1) := by decide +kernel
theorem dX6_init_25 : decode cX6_init 25 = .ok (.newarray .boolean, 2) := by decide +kernel
theorem dX6_init_27 : decode cX6_init 27 = .ok (.putfield 20, 3) := by decide +kernel
theorem dX6_init_30 : decode cX6_init 30 = .ok (.aload_n 0, 1) := by decide +kernel
theorem dX6_init_31 : decode cX6_init 31 = .ok (.new 24, 3) := by decide +kernel
theorem dX6_init_34 : decode cX6_init 34 = .ok (.dup, 1) := by decide +kernel
theorem dX6_init_35 : decode cX6_init 35 = .ok (.invokespecial 26, 3) := by decide +kernel
theorem dX6_init_38 : decode cX6_init 38 = .ok (.putfield 27, 3) := by decide +kernel
theorem dX6_init_41 : decode cX6_init 41 = .ok (.aload_n 0, 1) := by decide +kernel
theorem dX6_init_42 : decode cX6_init 42 = .ok (.bipush 8, 2) := by decide +kernel
theorem dX6_init_44 : decode cX6_init 44 = .ok (.newarray .int, 2) := by decide +kernel
theorem dX6_init_46 : decode cX6_init 46 = .ok (.putfield 31, 3) := by decide +kernel
theorem dX6_init_49 : decode cX6_init 49 = .ok (.aload_n 0, 1) := by decide +kernel
theorem dX6_init_50 : decode cX6_init 50 = .ok (.bipush 14, 2) := by decide +kernel
theorem dX6_init_52 : decode cX6_init 52 = .ok (.newarray .long, 2) := by decide +kernel
theorem dX6_init_54 : decode cX6_init 54 = .ok (.putfield 35, 3) := by decide +kernel
theorem dX6_init_57 : decode cX6_init 57 = .ok (.iconst 0, 1) := by decide +kernel
theorem dX6_init_58 : decode cX6_init 58 = .ok (.istore_n 1, 1) := by decide +kernel
theorem dX6_init_59 : decode cX6_init 59 = .ok (.iload_n 1, 1) := by decide +kernel
theorem dX6_init_60 : decode cX6_init 60 = .ok (.iconst 3, 1) := by decide +kernel
theorem dX6_init_61 : decode cX6_init 61 = .ok (.if_icmp .ge 22, 3) := by decide +kernel
theorem dX6_init_64 : decode cX6_init 64 = .ok (.aload_n 0, 1) := by decide +kernel
theorem dX6_init_65 : decode cX6_init 65 = .ok (.getfield 16, 3) := by decide +kernel
theorem dX6_init_68 : decode cX6_init 68 = .ok (.iload_n 1, 1) := by decide +kernel
theorem dX6_init_69 : decode cX6_init 69 = .ok (.new 7, 3) := by decide +kernel
theorem dX6_init_72 : decode cX6_init 72 = .ok (.dup, 1) := by decide +kernel
theorem dX6_init_73 : decode cX6_init 73 = .ok (.invokespecial 9, 3) := by decide +kernel
theorem dX6_init_76 : decode cX6_init 76 = .ok (.aastore, 1) := by decide +kernel
theorem dX6_init_77 : decode cX6_init 77 = .ok (.iinc 1 1, 3) := by decide +kernel
theorem dX6_init_80 : decode cX6_init 80 = .ok (.goto (-21), 3) := by decide +kernel
theorem dX6_init_83 : decode cX6_init 83 = .ok (.return_, 1) := by decide +kernel
theorem dX6_coin_0 : decode cX6_coin 0 = .ok (.aload_n 0, 1) := by decide +kernel
theorem dX6_coin_1 : decode cX6_coin 1 = .ok (.getfield 10, 3) := by decide +kernel
theorem dX6_coin_4 : decode cX6_coin 4 = .ok (.iload_n 1, 1) := by decide +kernel
theorem dX6_coin_5 : decode cX6_coin 5 = .ok (.invokevirtual 39, 3) := by decide +kernel
theorem dX6_coin_8 : decode cX6_coin 8 = .ok (.astore_n 3, 1) := by decide +kernel
theorem dX6_coin_9 : decode cX6_coin 9 = .ok (.aload_n 3, 1) := by decide +kernel
theorem dX6_coin_10 : decode cX6_coin 10 = .ok (.ifnonnull 7, 3) := by decide +kernel
theorem dX6_coin_13 : decode cX6_coin 13 = .ok (.iconst (-1), 1) := by decide +kernel
theorem dX6_coin_14 : decode cX6_coin 14 = .ok (.goto 8, 3) := by decide +kernel
theorem dX6_coin_17 : decode cX6_coin 17 = .ok (.aload_n 3, 1) := by decide +kernel
theorem dX6_coin_18 : decode cX6_coin 18 = .ok (.iload_n 2, 1) := by decide +kernel
theorem dX6_coin_19 : decode cX6_coin 19 = .ok (.invokevirtual 43, 3) := by decide +kernel
theorem dX6_coin_22 : decode cX6_coin 22 = .ok (.ireturn, 1) := by decide +kernel
theorem dX6_rate_0 : decode cX6_rate 0 = .ok (.iconst 1, 1) := by decide +kernel
theorem dX6_rate_1 : decode cX6_rate 1 = .ok (.iload_n 1, 1) := by decide +kernel
theorem dX6_rate_2 : decode cX6_rate 2 = .ok (.bipush 100, 2) := by decide +kernel
theorem dX6_rate_4 : decode cX6_rate 4 = .ok (.invokestatic 49, 3) := by decide +kernel
theorem dX6_rate_7 : decode cX6_rate 7 = .ok (.ifCond .eq 23, 3) := by decide +kernel
theorem dX6_rate_10 : decode cX6_rate 10 = .ok (.iconst 1, 1) := by decide +kernel
theorem dX6_rate_11 : decode cX6_rate 11 = .ok (.iload_n 2, 1) := by decide +kernel
theorem dX6_rate_12 : decode cX6_rate 12 = .ok (.bipush 100, 2) := by decide +kernel
theorem dX6_rate_14 : decode cX6_rate 14 = .ok (.invokestatic 49, 3) := by decide +kernel
theorem dX6_rate_17 : decode cX6_rate 17 = .ok (.ifCond .eq 13, 3) := by decide +kernel
theorem dX6_rate_20 : decode cX6_rate 20 = .ok (.aload_n 0, 1) := by decide +kernel
theorem dX6_rate_21 : decode cX6_rate 21 = .ok (.getfield 10, 3) := by decide +kernel
theorem dX6_rate_24 : decode cX6_rate 24 = .ok (.invokevirtual 53, 3) := by decide +kernel
theorem dX6_rate_27 : decode cX6_rate 27 = .ok (.ifCond .eq 5, 3) := by decide +kernel
theorem dX6_rate_30 : decode cX6_rate 30 = .ok (.iconst 0, 1) := by decide +kernel
theorem dX6_rate_31 : decode cX6_rate 31 = .ok (.ireturn, 1) := by decide +kernel
theorem dX6_rate_32 : decode cX6_rate 32 = .ok (.aload_n 0, 1) := by decide +kernel
theorem dX6_rate_33 : decode cX6_rate 33 = .ok (.getfield 10, 3) := by decide +kernel
theorem dX6_rate_36 : decode cX6_rate 36 = .ok (.iload_n 1, 1) := by decide +kernel
theorem dX6_rate_37 : decode cX6_rate 37 = .ok (.putfield 57, 3) := by decide +kernel
theorem dX6_rate_40 : decode cX6_rate 40 = .ok (.aload_n 0, 1) := by decide +kernel
theorem dX6_rate_41 : decode cX6_rate 41 = .ok (.getfield 10, 3) := by decide +kernel
theorem dX6_rate_44 : decode cX6_rate 44 = .ok (.iload_n 2, 1) := by decide +kernel
theorem dX6_rate_45 : decode cX6_rate 45 = .ok (.putfield 61, 3) := by decide +kernel
theorem dX6_rate_48 : decode cX6_rate 48 = .ok (.iconst 1, 1) := by decide +kernel
theorem dX6_rate_49 : decode cX6_rate 49 = .ok (.ireturn, 1) := by decide +kernel
theorem dX6_good_0 : decode cX6_good 0 = .ok (.aload_n 0, 1) := by decide +kernel
theorem dX6_good_1 : decode cX6_good 1 = .ok (.getfield 10, 3) := by decide +kernel
theorem dX6_good_4 : decode cX6_good 4 = .ok (.getfield 64, 3) := by decide +kernel
theorem dX6_good_7 : decode cX6_good 7 = .ok (.iload_n 1, 1) := by decide +kernel
theorem dX6_good_8 : decode cX6_good 8 = .ok (.iload_n 2, 1) := by decide +kernel
theorem dX6_good_9 : decode cX6_good 9 = .ok (.invokevirtual 68, 3) := by decide +kernel
theorem dX6_good_12 : decode cX6_good 12 = .ok (.ireturn, 1) := by decide +kernel
theorem dX6_sold_0 : decode cX6_sold 0 = .ok (.aload_n 0, 1) := by decide +kernel
theorem dX6_sold_1 : decode cX6_sold 1 = .ok (.getfield 10, 3) := by decide +kernel
theorem dX6_sold_4 : decode cX6_sold 4 = .ok (.getfield 64, 3) := by decide +kernel
theorem dX6_sold_7 : decode cX6_sold 7 = .ok (.iload_n 1, 1) := by decide +kernel
theorem dX6_sold_8 : decode cX6_sold 8 = .ok (.invokevirtual 73, 3) := by decide +kernel
theorem dX6_sold_11 : decode cX6_sold 11 = .ok (.ifCond .eq 13, 3) := by decide +kernel
theorem dX6_sold_14 : decode cX6_sold 14 = .ok (.iconst 0, 1) := by decide +kernel
theorem dX6_sold_15 : decode cX6_sold 15 = .ok (.iload_n 2, 1) := by decide +kernel
theorem dX6_sold_16 : decode cX6_sold 16 = .ok (.bipush 100, 2) := by decide +kernel
theorem dX6_sold_18 : decode cX6_sold 18 = .ok (.invokestatic 49, 3) := by decide +kernel
theorem dX6_sold_21 : decode cX6_sold 21 = .ok (.ifCond .ne 5, 3) := by decide +kernel
theorem dX6_sold_24 : decode cX6_sold 24 = .ok (.iconst 0, 1) := by decide +kernel
theorem dX6_sold_25 : decode cX6_sold 25 = .ok (.ireturn, 1) := by decide +kernel
theorem dX6_sold_26 : decode cX6_sold 26 = .ok (.aload_n 0, 1) := by decide +kernel
theorem dX6_sold_27 : decode cX6_sold 27 = .ok (.getfield 10, 3) := by decide +kernel
theorem dX6_sold_30 : decode cX6_sold 30 = .ok (.getfield 64, 3) := by decide +kernel
theorem dX6_sold_33 : decode cX6_sold 33 = .ok (.getfield 77, 3) := by decide +kernel
theorem dX6_sold_36 : decode cX6_sold 36 = .ok (.iload_n 1, 1) := by decide +kernel
theorem dX6_sold_37 : decode cX6_sold 37 = .ok (.iload_n 2, 1) := by decide +kernel
theorem dX6_sold_38 : decode cX6_sold 38 = .ok (.iastore, 1) := by decide +kernel
theorem dX6_sold_39 : decode cX6_sold 39 = .ok (.iconst 1, 1) := by decide +kernel
theorem dX6_sold_40 : decode cX6_sold 40 = .ok (.ireturn, 1) := by decide +kernel
theorem dX6_step_0 : decode cX6_step 0 = .ok (.iconst 1, 1) := by decide +kernel
theorem dX6_step_1 : decode cX6_step 1 = .ok (.iload_n 1, 1) := by decide +kernel
theorem dX6_step_2 : decode cX6_step 2 = .ok (.bipush 100, 2) := by decide +kernel
theorem dX6_step_4 : decode cX6_step 4 = .ok (.invokestatic 49, 3) := by decide +kernel
theorem dX6_step_7 : decode cX6_step 7 = .ok (.ifCond .ne 5, 3) := by decide +kernel
theorem dX6_step_10 : decode cX6_step 10 = .ok (.iconst 0, 1) := by decide +kernel
theorem dX6_step_11 : decode cX6_step 11 = .ok (.ireturn, 1) := by decide +kernel
theorem dX6_step_12 : decode cX6_step 12 = .ok (.aload_n 0, 1) := by decide +kernel
theorem dX6_step_13 : decode cX6_step 13 = .ok (.getfield 10, 3) := by decide +kernel
theorem dX6_step_16 : decode cX6_step 16 = .ok (.iload_n 1, 1) := by decide +kernel
theorem dX6_step_17 : decode cX6_step 17 = .ok (.putfield 80, 3) := by decide +kernel
theorem dX6_step_20 : decode cX6_step 20 = .ok (.iconst 1, 1) := by decide +kernel
theorem dX6_step_21 : decode cX6_step 21 = .ok (.ireturn, 1) := by decide +kernel
theorem dX6_price_0 : decode cX6_price 0 = .ok (.aload_n 0, 1) := by decide +kernel
theorem dX6_price_1 : decode cX6_price 1 = .ok (.getfield 10, 3) := by decide +kernel
theorem dX6_price_4 : decode cX6_price 4 = .ok (.getfield 64, 3) := by decide +kernel
theorem dX6_price_7 : decode cX6_price 7 = .ok (.iload_n 1, 1) := by decide +kernel
theorem dX6_price_8 : decode cX6_price 8 = .ok (.invokevirtual 73, 3) := by decide +kernel
theorem dX6_price_11 : decode cX6_price 11 = .ok (.ifCond .eq 22, 3) := by decide +kernel
theorem dX6_price_14 : decode cX6_price 14 = .ok (.iload_n 2, 1) := by decide +kernel
theorem dX6_price_15 : decode cX6_price 15 = .ok (.invokestatic 83, 3) := by decide +kernel
theorem dX6_price_18 : decode cX6_price 18 = .ok (.ifCond .eq 15, 3) := by decide +kernel
theorem dX6_price_21 : decode cX6_price 21 = .ok (.aload_n 0, 1) := by decide +kernel
theorem dX6_price_22 : decode cX6_price 22 = .ok (.getfield 10, 3) := by decide +kernel
theorem dX6_price_25 : decode cX6_price 25 = .ok (.iload_n 1, 1) := by decide +kernel
theorem dX6_price_26 : decode cX6_price 26 = .ok (.iload_n 2, 1) := by decide +kernel
theorem dX6_price_27 : decode cX6_price 27 = .ok (.invokevirtual 86, 3) := by decide +kernel
theorem dX6_price_30 : decode cX6_price 30 = .ok (.goto 4, 3) := by decide +kernel
theorem dX6_price_33 : decode cX6_price 33 = .ok (.iconst (-1), 1) := by decide +kernel
theorem dX6_price_34 : decode cX6_price 34 = .ok (.ireturn, 1) := by decide +kernel
theorem dX6_gain_0 : decode cX6_gain 0 = .ok (.lconst 0, 1) := by decide +kernel
theorem dX6_gain_1 : decode cX6_gain 1 = .ok (.lstore_n 2, 1) := by decide +kernel
theorem dX6_gain_2 : decode cX6_gain 2 = .ok (.iload_n 1, 1) := by decide +kernel
theorem dX6_gain_3 : decode cX6_gain 3 = .ok (.invokestatic 83, 3) := by decide +kernel
theorem dX6_gain_6 : decode cX6_gain 6 = .ok (.ifCond .eq 40, 3) := by decide +kernel
theorem dX6_gain_9 : decode cX6_gain 9 = .ok (.iconst 0, 1) := by decide +kernel
theorem dX6_gain_10 : decode cX6_gain 10 = .ok (.istore 4, 2) := by decide +kernel
theorem dX6_gain_12 : decode cX6_gain 12 = .ok (.iload 4, 2) := by decide +kernel
theorem dX6_gain_14 : decode cX6_gain 14 = .ok (.aload_n 0, 1) := by decide +kernel
theorem dX6_gain_15 : decode cX6_gain 15 = .ok (.getfield 10, 3) := by decide +kernel
theorem dX6_gain_18 : decode cX6_gain 18 = .ok (.getfield 64, 3) := by decide +kernel
theorem dX6_gain_21 : decode cX6_gain 21 = .ok (.getfield 89, 3) := by decide +kernel
theorem dX6_gain_24 : decode cX6_gain 24 = .ok (.if_icmp .ge 22, 3) := by decide +kernel
theorem dX6_gain_27 : decode cX6_gain 27 = .ok (.lload_n 2, 1) := by decide +kernel
theorem dX6_gain_28 : decode cX6_gain 28 = .ok (.aload_n 0, 1) := by decide +kernel
theorem dX6_gain_29 : decode cX6_gain 29 = .ok (.getfield 10, 3) := by decide +kernel
theorem dX6_gain_32 : decode cX6_gain 32 = .ok (.iload 4, 2) := by decide +kernel
theorem dX6_gain_34 : decode cX6_gain 34 = .ok (.iload_n 1, 1) := by decide +kernel
theorem dX6_gain_35 : decode cX6_gain 35 = .ok (.invokevirtual 92, 3) := by decide +kernel
theorem dX6_gain_38 : decode cX6_gain 38 = .ok (.ladd, 1) := by decide +kernel
theorem dX6_gain_39 : decode cX6_gain 39 = .ok (.lstore_n 2, 1) := by decide +kernel
theorem dX6_gain_40 : decode cX6_gain 40 = .ok (.iinc 4 1, 3) := by decide +kernel
theorem dX6_gain_43 : decode cX6_gain 43 = .ok (.goto (-31), 3) := by decide +kernel
theorem dX6_gain_46 : decode cX6_gain 46 = .ok (.lload_n 2, 1) := by decide +kernel
theorem dX6_gain_47 : decode cX6_gain 47 = .ok (.lreturn, 1) := by decide +kernel
theorem dX6_fairest_0 : decode cX6_fairest 0 = .ok (.aload_n 0, 1) := by decide +kernel
theorem dX6_fairest_1 : decode cX6_fairest 1 = .ok (.invokevirtual 96, 3) := by decide +kernel
theorem dX6_fairest_4 : decode cX6_fairest 4 = .ok (.lstore_n 1, 1) := by decide +kernel
theorem dX6_fairest_5 : decode cX6_fairest 5 = .ok (.lload_n 1, 1) := by decide +kernel
theorem dX6_fairest_6 : decode cX6_fairest 6 = .ok (.invokestatic 100, 3) := by decide +kernel
theorem dX6_fairest_9 : decode cX6_fairest 9 = .ok (.lstore_n 3, 1) := by decide +kernel
theorem dX6_fairest_10 : decode cX6_fairest 10 = .ok (.iconst 0, 1) := by decide +kernel
theorem dX6_fairest_11 : decode cX6_fairest 11 = .ok (.istore 5, 2) := by decide +kernel
theorem dX6_fairest_13 : decode cX6_fairest 13 = .ok (.iconst 1, 1) := by decide +kernel
theorem dX6_fairest_14 : decode cX6_fairest 14 = .ok (.aload_n 0, 1) := by decide +kernel
theorem dX6_fairest_15 : decode cX6_fairest 15 = .ok (.getfield 10, 3) := by decide +kernel
theorem dX6_fairest_18 : decode cX6_fairest 18 = .ok (.getfield 64, 3) := by decide +kernel
theorem dX6_fairest_21 : decode cX6_fairest 21 = .ok (.getfield 89, 3) := by decide +kernel
theorem dX6_fairest_24 : decode cX6_fairest 24 = .ok (.ishl, 1) := by decide +kernel
theorem dX6_fairest_25 : decode cX6_fairest 25 = .ok (.istore 6, 2) := by decide +kernel
theorem dX6_fairest_27 : decode cX6_fairest 27 = .ok (.iconst 1, 1) := by decide +kernel
theorem dX6_fairest_28 : decode cX6_fairest 28 = .ok (.istore 7, 2) := by decide +kernel
theorem dX6_fairest_30 : decode cX6_fairest 30 = .ok (.iload 7, 2) := by decide +kernel
theorem dX6_fairest_32 : decode cX6_fairest 32 = .ok (.iload 6, 2) := by decide +kernel
theorem dX6_fairest_34 : decode cX6_fairest 34 = .ok (.if_icmp .ge 56, 3) := by decide +kernel
theorem dX6_fairest_37 : decode cX6_fairest 37 = .ok (.lload_n 3, 1) := by decide +kernel
theorem dX6_fairest_38 : decode cX6_fairest 38 = .ok (.lconst 0, 1) := by decide +kernel
theorem dX6_fairest_39 : decode cX6_fairest 39 = .ok (.lcmp, 1) := by decide +kernel
theorem dX6_fairest_40 : decode cX6_fairest 40 = .ok (.ifCond .le 50, 3) := by decide +kernel
theorem dX6_fairest_43 : decode cX6_fairest 43 = .ok (.iload 7, 2) := by decide +kernel
theorem dX6_fairest_45 : decode cX6_fairest 45 = .ok (.iload 7, 2) := by decide +kernel
theorem dX6_fairest_47 : decode cX6_fairest 47 = .ok (.ineg, 1) := by decide +kernel
theorem dX6_fairest_48 : decode cX6_fairest 48 = .ok (.iand, 1) := by decide +kernel
theorem dX6_fairest_49 : decode cX6_fairest 49 = .ok (.iconst 1, 1) := by decide +kernel
theorem dX6_fairest_50 : decode cX6_fairest 50 = .ok (.isub, 1) := by decide +kernel
theorem dX6_fairest_51 : decode cX6_fairest 51 = .ok (.invokestatic 106, 3) := by decide +kernel
theorem dX6_fairest_54 : decode cX6_fairest 54 = .ok (.istore 8, 2) := by decide +kernel
theorem dX6_fairest_56 : decode cX6_fairest 56 = .ok (.lload_n 1, 1) := by decide +kernel
theorem dX6_fairest_57 : decode cX6_fairest 57 = .ok (.aload_n 0, 1) := by decide +kernel
theorem dX6_fairest_58 : decode cX6_fairest 58 = .ok (.getfield 35, 3) := by decide +kernel
theorem dX6_fairest_61 : decode cX6_fairest 61 = .ok (.iload 8, 2) := by decide +kernel
theorem dX6_fairest_63 : decode cX6_fairest 63 = .ok (.laload, 1) := by decide +kernel
theorem dX6_fairest_64 : decode cX6_fairest 64 = .ok (.ladd, 1) := by decide +kernel
theorem dX6_fairest_65 : decode cX6_fairest 65 = .ok (.lstore_n 1, 1) := by decide +kernel
theorem dX6_fairest_66 : decode cX6_fairest 66 = .ok (.lload_n 1, 1) := by decide +kernel
theorem dX6_fairest_67 : decode cX6_fairest 67 = .ok (.invokestatic 100, 3) := by decide +kernel
theorem dX6_fairest_70 : decode cX6_fairest 70 = .ok (.lload_n 3, 1) := by decide +kernel
theorem dX6_fairest_71 : decode cX6_fairest 71 = .ok (.lcmp, 1) := by decide +kernel
theorem dX6_fairest_72 : decode cX6_fairest 72 = .ok (.ifCond .ge 12, 3) := by decide +kernel
theorem dX6_fairest_75 : decode cX6_fairest 75 = .ok (.lload_n 1, 1) := by decide +kernel
theorem dX6_fairest_76 : decode cX6_fairest 76 = .ok (.invokestatic 100, 3) := by decide +kernel
theorem dX6_fairest_79 : decode cX6_fairest 79 = .ok (.lstore_n 3, 1) := by decide +kernel
theorem dX6_fairest_80 : decode cX6_fairest 80 = .ok (.iload 7, 2) := by decide +kernel
theorem dX6_fairest_82 : decode cX6_fairest 82 = .ok (.istore 5, 2) := by decide +kernel
theorem dX6_fairest_84 : decode cX6_fairest 84 = .ok (.iinc 7 1, 3) := by decide +kernel
theorem dX6_fairest_87 : decode cX6_fairest 87 = .ok (.goto (-57), 3) := by decide +kernel
theorem dX6_fairest_90 : decode cX6_fairest 90 = .ok (.iload 5, 2) := by decide +kernel
theorem dX6_fairest_92 : decode cX6_fairest 92 = .ok (.ireturn, 1) := by decide +kernel
theorem dX6_gains_0 : decode cX6_gains 0 = .ok (.lconst 0, 1) := by decide +kernel
theorem dX6_gains_1 : decode cX6_gains 1 = .ok (.lstore_n 2, 1) := by decide +kernel
theorem dX6_gains_2 : decode cX6_gains 2 = .ok (.iconst 0, 1) := by decide +kernel
theorem dX6_gains_3 : decode cX6_gains 3 = .ok (.istore 4, 2) := by decide +kernel
theorem dX6_gains_5 : decode cX6_gains 5 = .ok (.iload 4, 2) := by decide +kernel
theorem dX6_gains_7 : decode cX6_gains 7 = .ok (.aload_n 0, 1) := by decide +kernel
theorem dX6_gains_8 : decode cX6_gains 8 = .ok (.getfield 10, 3) := by decide +kernel
theorem dX6_gains_11 : decode cX6_gains 11 = .ok (.getfield 64, 3) := by decide +kernel
theorem dX6_gains_14 : decode cX6_gains 14 = .ok (.getfield 89, 3) := by decide +kernel
theorem dX6_gains_17 : decode cX6_gains 17 = .ok (.if_icmp .ge 48, 3) := by decide +kernel
theorem dX6_gains_20 : decode cX6_gains 20 = .ok (.iload_n 1, 1) := by decide +kernel
theorem dX6_gains_21 : decode cX6_gains 21 = .ok (.iload 4, 2) := by decide +kernel
theorem dX6_gains_23 : decode cX6_gains 23 = .ok (.ishr, 1) := by decide +kernel
theorem dX6_gains_24 : decode cX6_gains 24 = .ok (.iconst 1, 1) := by decide +kernel
theorem dX6_gains_25 : decode cX6_gains 25 = .ok (.iand, 1) := by decide +kernel
theorem dX6_gains_26 : decode cX6_gains 26 = .ok (.iconst 1, 1) := by decide +kernel
theorem dX6_gains_27 : decode cX6_gains 27 = .ok (.if_icmp .ne 7, 3) := by decide +kernel
theorem dX6_gains_30 : decode cX6_gains 30 = .ok (.iconst 1, 1) := by decide +kernel
theorem dX6_gains_31 : decode cX6_gains 31 = .ok (.goto 4, 3) := by decide +kernel
theorem dX6_gains_34 : decode cX6_gains 34 = .ok (.iconst 0, 1) := by decide +kernel
theorem dX6_gains_35 : decode cX6_gains 35 = .ok (.istore 5, 2) := by decide +kernel
theorem dX6_gains_37 : decode cX6_gains 37 = .ok (.lload_n 2, 1) := by decide +kernel
theorem dX6_gains_38 : decode cX6_gains 38 = .ok (.aload_n 0, 1) := by decide +kernel
theorem dX6_gains_39 : decode cX6_gains 39 = .ok (.getfield 10, 3) := by decide +kernel
theorem dX6_gains_42 : decode cX6_gains 42 = .ok (.iload 4, 2) := by decide +kernel
theorem dX6_gains_44 : decode cX6_gains 44 = .ok (.iload 5, 2) := by decide +kernel
theorem dX6_gains_46 : decode cX6_gains 46 = .ok (.ifCond .eq 7, 3) := by decide +kernel
theorem dX6_gains_49 : decode cX6_gains 49 = .ok (.iconst 1, 1) := by decide +kernel
theorem dX6_gains_50 : decode cX6_gains 50 = .ok (.goto 4, 3) := by decide +kernel
theorem dX6_gains_53 : decode cX6_gains 53 = .ok (.iconst 0, 1) := by decide +kernel
theorem dX6_gains_54 : decode cX6_gains 54 = .ok (.invokevirtual 92, 3) := by decide +kernel
theorem dX6_gains_57 : decode cX6_gains 57 = .ok (.ladd, 1) := by decide +kernel
theorem dX6_gains_58 : decode cX6_gains 58 = .ok (.lstore_n 2, 1) := by decide +kernel
theorem dX6_gains_59 : decode cX6_gains 59 = .ok (.iinc 4 1, 3) := by decide +kernel
theorem dX6_gains_62 : decode cX6_gains 62 = .ok (.goto (-57), 3) := by decide +kernel
theorem dX6_gains_65 : decode cX6_gains 65 = .ok (.lload_n 2, 1) := by decide +kernel
theorem dX6_gains_66 : decode cX6_gains 66 = .ok (.lreturn, 1) := by decide +kernel
theorem dX6_fewest_0 : decode cX6_fewest 0 = .ok (.aload_n 0, 1) := by decide +kernel
theorem dX6_fewest_1 : decode cX6_fewest 1 = .ok (.getfield 10, 3) := by decide +kernel
theorem dX6_fewest_4 : decode cX6_fewest 4 = .ok (.iload_n 1, 1) := by decide +kernel
theorem dX6_fewest_5 : decode cX6_fewest 5 = .ok (.invokevirtual 39, 3) := by decide +kernel
theorem dX6_fewest_8 : decode cX6_fewest 8 = .ok (.astore 4, 2) := by decide +kernel
theorem dX6_fewest_10 : decode cX6_fewest 10 = .ok (.aload 4, 2) := by decide +kernel
theorem dX6_fewest_12 : decode cX6_fewest 12 = .ok (.ifnull 12, 3) := by decide +kernel
theorem dX6_fewest_15 : decode cX6_fewest 15 = .ok (.aload 4, 2) := by decide +kernel
theorem dX6_fewest_17 : decode cX6_fewest 17 = .ok (.iload_n 2, 1) := by decide +kernel
theorem dX6_fewest_18 : decode cX6_fewest 18 = .ok (.invokevirtual 111, 3) := by decide +kernel
theorem dX6_fewest_21 : decode cX6_fewest 21 = .ok (.ifCond .ne 5, 3) := by decide +kernel
theorem dX6_fewest_24 : decode cX6_fewest 24 = .ok (.iconst (-1), 1) := by decide +kernel
theorem dX6_fewest_25 : decode cX6_fewest 25 = .ok (.ireturn, 1) := by decide +kernel
theorem dX6_fewest_26 : decode cX6_fewest 26 = .ok (.iload_n 3, 1) := by decide +kernel
theorem dX6_fewest_27 : decode cX6_fewest 27 = .ok (.iconst (-1), 1) := by decide +kernel
theorem dX6_fewest_28 : decode cX6_fewest 28 = .ok (.if_icmp .ne 11, 3) := by decide +kernel
theorem dX6_fewest_31 : decode cX6_fewest 31 = .ok (.aload 4, 2) := by decide +kernel
theorem dX6_fewest_33 : decode cX6_fewest 33 = .ok (.getfield 114, 3) := by decide +kernel
theorem dX6_fewest_36 : decode cX6_fewest 36 = .ok (.iload_n 2, 1) := by decide +kernel
theorem dX6_fewest_37 : decode cX6_fewest 37 = .ok (.iaload, 1) := by decide +kernel
theorem dX6_fewest_38 : decode cX6_fewest 38 = .ok (.ireturn, 1) := by decide +kernel
theorem dX6_fewest_39 : decode cX6_fewest 39 = .ok (.aload 4, 2) := by decide +kernel
theorem dX6_fewest_41 : decode cX6_fewest 41 = .ok (.iload_n 3, 1) := by decide +kernel
theorem dX6_fewest_42 : decode cX6_fewest 42 = .ok (.invokevirtual 117, 3) := by decide +kernel
theorem dX6_fewest_45 : decode cX6_fewest 45 = .ok (.ifCond .ne 5, 3) := by decide +kernel
theorem dX6_fewest_48 : decode cX6_fewest 48 = .ok (.iconst (-1), 1) := by decide +kernel
theorem dX6_fewest_49 : decode cX6_fewest 49 = .ok (.ireturn, 1) := by decide +kernel
theorem dX6_fewest_50 : decode cX6_fewest 50 = .ok (.aload 4, 2) := by decide +kernel
theorem dX6_fewest_52 : decode cX6_fewest 52 = .ok (.iload_n 2, 1) := by decide +kernel
theorem dX6_fewest_53 : decode cX6_fewest 53 = .ok (.aload_n 0, 1) := by decide +kernel
theorem dX6_fewest_54 : decode cX6_fewest 54 = .ok (.getfield 31, 3) := by decide +kernel
theorem dX6_fewest_57 : decode cX6_fewest 57 = .ok (.invokevirtual 120, 3) := by decide +kernel
theorem dX6_fewest_60 : decode cX6_fewest 60 = .ok (.aload_n 0, 1) := by decide +kernel
theorem dX6_fewest_61 : decode cX6_fewest 61 = .ok (.getfield 31, 3) := by decide +kernel
theorem dX6_fewest_64 : decode cX6_fewest 64 = .ok (.iload_n 3, 1) := by decide +kernel
theorem dX6_fewest_65 : decode cX6_fewest 65 = .ok (.iaload, 1) := by decide +kernel
theorem dX6_fewest_66 : decode cX6_fewest 66 = .ok (.ireturn, 1) := by decide +kernel
theorem dX6_greedy_0 : decode cX6_greedy 0 = .ok (.aload_n 0, 1) := by decide +kernel
theorem dX6_greedy_1 : decode cX6_greedy 1 = .ok (.getfield 10, 3) := by decide +kernel
theorem dX6_greedy_4 : decode cX6_greedy 4 = .ok (.iload_n 1, 1) := by decide +kernel
theorem dX6_greedy_5 : decode cX6_greedy 5 = .ok (.invokevirtual 39, 3) := by decide +kernel
theorem dX6_greedy_8 : decode cX6_greedy 8 = .ok (.astore_n 3, 1) := by decide +kernel
theorem dX6_greedy_9 : decode cX6_greedy 9 = .ok (.aload_n 3, 1) := by decide +kernel
theorem dX6_greedy_10 : decode cX6_greedy 10 = .ok (.ifnull 10, 3) := by decide +kernel
theorem dX6_greedy_13 : decode cX6_greedy 13 = .ok (.iload_n 2, 1) := by decide +kernel
theorem dX6_greedy_14 : decode cX6_greedy 14 = .ok (.invokestatic 124, 3) := by decide +kernel
theorem dX6_greedy_17 : decode cX6_greedy 17 = .ok (.ifCond .ne 7, 3) := by decide +kernel
theorem dX6_greedy_20 : decode cX6_greedy 20 = .ok (.iconst (-1), 1) := by decide +kernel
theorem dX6_greedy_21 : decode cX6_greedy 21 = .ok (.goto 8, 3) := by decide +kernel
theorem dX6_greedy_24 : decode cX6_greedy 24 = .ok (.aload_n 3, 1) := by decide +kernel
theorem dX6_greedy_25 : decode cX6_greedy 25 = .ok (.iload_n 2, 1) := by decide +kernel
theorem dX6_greedy_26 : decode cX6_greedy 26 = .ok (.invokevirtual 127, 3) := by decide +kernel
theorem dX6_greedy_29 : decode cX6_greedy 29 = .ok (.ireturn, 1) := by decide +kernel
theorem dX6_odd_0 : decode cX6_odd 0 = .ok (.aload_n 0, 1) := by decide +kernel
theorem dX6_odd_1 : decode cX6_odd 1 = .ok (.getfield 10, 3) := by decide +kernel
theorem dX6_odd_4 : decode cX6_odd 4 = .ok (.iload_n 1, 1) := by decide +kernel
theorem dX6_odd_5 : decode cX6_odd 5 = .ok (.invokevirtual 39, 3) := by decide +kernel
theorem dX6_odd_8 : decode cX6_odd 8 = .ok (.astore_n 2, 1) := by decide +kernel
theorem dX6_odd_9 : decode cX6_odd 9 = .ok (.aload_n 2, 1) := by decide +kernel
theorem dX6_odd_10 : decode cX6_odd 10 = .ok (.ifnonnull 7, 3) := by decide +kernel
theorem dX6_odd_13 : decode cX6_odd 13 = .ok (.iconst (-1), 1) := by decide +kernel
theorem dX6_odd_14 : decode cX6_odd 14 = .ok (.goto 7, 3) := by decide +kernel
theorem dX6_odd_17 : decode cX6_odd 17 = .ok (.aload_n 2, 1) := by decide +kernel
theorem dX6_odd_18 : decode cX6_odd 18 = .ok (.invokevirtual 130, 3) := by decide +kernel
theorem dX6_odd_21 : decode cX6_odd 21 = .ok (.ireturn, 1) := by decide +kernel
theorem dX6_till_0 : decode cX6_till 0 = .ok (.aload_n 0, 1) := by decide +kernel
theorem dX6_till_1 : decode cX6_till 1 = .ok (.getfield 10, 3) := by decide +kernel
theorem dX6_till_4 : decode cX6_till 4 = .ok (.getfield 134, 3) := by decide +kernel
theorem dX6_till_7 : decode cX6_till 7 = .ok (.iconst 4, 1) := by decide +kernel
theorem dX6_till_8 : decode cX6_till 8 = .ok (.if_icmp .lt 5, 3) := by decide +kernel
theorem dX6_till_11 : decode cX6_till 11 = .ok (.iconst (-1), 1) := by decide +kernel
theorem dX6_till_12 : decode cX6_till 12 = .ok (.ireturn, 1) := by decide +kernel
theorem dX6_till_13 : decode cX6_till 13 = .ok (.aload_n 0, 1) := by decide +kernel
theorem dX6_till_14 : decode cX6_till 14 = .ok (.getfield 10, 3) := by decide +kernel
theorem dX6_till_17 : decode cX6_till 17 = .ok (.dup, 1) := by decide +kernel
theorem dX6_till_18 : decode cX6_till 18 = .ok (.getfield 134, 3) := by decide +kernel
theorem dX6_till_21 : decode cX6_till 21 = .ok (.iconst 1, 1) := by decide +kernel
theorem dX6_till_22 : decode cX6_till 22 = .ok (.iadd, 1) := by decide +kernel
theorem dX6_till_23 : decode cX6_till 23 = .ok (.putfield 134, 3) := by decide +kernel
theorem dX6_till_26 : decode cX6_till 26 = .ok (.aload_n 0, 1) := by decide +kernel
theorem dX6_till_27 : decode cX6_till 27 = .ok (.getfield 10, 3) := by decide +kernel
theorem dX6_till_30 : decode cX6_till 30 = .ok (.getfield 134, 3) := by decide +kernel
theorem dX6_till_33 : decode cX6_till 33 = .ok (.iconst 1, 1) := by decide +kernel
theorem dX6_till_34 : decode cX6_till 34 = .ok (.isub, 1) := by decide +kernel
theorem dX6_till_35 : decode cX6_till 35 = .ok (.ireturn, 1) := by decide +kernel
theorem dX6_put_0 : decode cX6_put 0 = .ok (.aload_n 0, 1) := by decide +kernel
theorem dX6_put_1 : decode cX6_put 1 = .ok (.getfield 10, 3) := by decide +kernel
theorem dX6_put_4 : decode cX6_put 4 = .ok (.iload_n 1, 1) := by decide +kernel
theorem dX6_put_5 : decode cX6_put 5 = .ok (.invokevirtual 137, 3) := by decide +kernel
theorem dX6_put_8 : decode cX6_put 8 = .ok (.astore 5, 2) := by decide +kernel
theorem dX6_put_10 : decode cX6_put 10 = .ok (.aload 5, 2) := by decide +kernel
theorem dX6_put_12 : decode cX6_put 12 = .ok (.ifnull 15, 3) := by decide +kernel
theorem dX6_put_15 : decode cX6_put 15 = .ok (.aload_n 0, 1) := by decide +kernel
theorem dX6_put_16 : decode cX6_put 16 = .ok (.getfield 10, 3) := by decide +kernel
theorem dX6_put_19 : decode cX6_put 19 = .ok (.iload_n 2, 1) := by decide +kernel
theorem dX6_put_20 : decode cX6_put 20 = .ok (.iload_n 3, 1) := by decide +kernel
theorem dX6_put_21 : decode cX6_put 21 = .ok (.invokevirtual 141, 3) := by decide +kernel
theorem dX6_put_24 : decode cX6_put 24 = .ok (.ifCond .ne 5, 3) := by decide +kernel
theorem dX6_put_27 : decode cX6_put 27 = .ok (.iconst (-1), 1) := by decide +kernel
theorem dX6_put_28 : decode cX6_put 28 = .ok (.ireturn, 1) := by decide +kernel
theorem dX6_put_29 : decode cX6_put 29 = .ok (.aload 5, 2) := by decide +kernel
theorem dX6_put_31 : decode cX6_put 31 = .ok (.iload_n 2, 1) := by decide +kernel
theorem dX6_put_32 : decode cX6_put 32 = .ok (.invokevirtual 144, 3) := by decide +kernel
theorem dX6_put_35 : decode cX6_put 35 = .ok (.astore 6, 2) := by decide +kernel
theorem dX6_put_37 : decode cX6_put 37 = .ok (.aload 6, 2) := by decide +kernel
theorem dX6_put_39 : decode cX6_put 39 = .ok (.iload_n 3, 1) := by decide +kernel
theorem dX6_put_40 : decode cX6_put 40 = .ok (.iaload, 1) := by decide +kernel
theorem dX6_put_41 : decode cX6_put 41 = .ok (.i2l, 1) := by decide +kernel
theorem dX6_put_42 : decode cX6_put 42 = .ok (.iload 4, 2) := by decide +kernel
theorem dX6_put_44 : decode cX6_put 44 = .ok (.i2l, 1) := by decide +kernel
theorem dX6_put_45 : decode cX6_put 45 = .ok (.ladd, 1) := by decide +kernel
theorem dX6_put_46 : decode cX6_put 46 = .ok (.lstore 7, 2) := by decide +kernel
theorem dX6_put_48 : decode cX6_put 48 = .ok (.lload 7, 2) := by decide +kernel
theorem dX6_put_50 : decode cX6_put 50 = .ok (.lconst 0, 1) := by decide +kernel
theorem dX6_put_51 : decode cX6_put 51 = .ok (.lcmp, 1) := by decide +kernel
theorem dX6_put_52 : decode cX6_put 52 = .ok (.ifCond .lt 12, 3) := by decide +kernel
theorem dX6_put_55 : decode cX6_put 55 = .ok (.lload 7, 2) := by decide +kernel
theorem dX6_put_57 : decode cX6_put 57 = .ok (.ldc2_w 150, 3) := by decide +kernel
theorem dX6_put_60 : decode cX6_put 60 = .ok (.lcmp, 1) := by decide +kernel
theorem dX6_put_61 : decode cX6_put 61 = .ok (.ifCond .le 5, 3) := by decide +kernel
theorem dX6_put_64 : decode cX6_put 64 = .ok (.iconst (-1), 1) := by decide +kernel
theorem dX6_put_65 : decode cX6_put 65 = .ok (.ireturn, 1) := by decide +kernel
theorem dX6_put_66 : decode cX6_put 66 = .ok (.aload 6, 2) := by decide +kernel
theorem dX6_put_68 : decode cX6_put 68 = .ok (.iload_n 3, 1) := by decide +kernel
theorem dX6_put_69 : decode cX6_put 69 = .ok (.lload 7, 2) := by decide +kernel
theorem dX6_put_71 : decode cX6_put 71 = .ok (.l2i, 1) := by decide +kernel
theorem dX6_put_72 : decode cX6_put 72 = .ok (.iastore, 1) := by decide +kernel
theorem dX6_put_73 : decode cX6_put 73 = .ok (.aload 6, 2) := by decide +kernel
theorem dX6_put_75 : decode cX6_put 75 = .ok (.iload_n 3, 1) := by decide +kernel
theorem dX6_put_76 : decode cX6_put 76 = .ok (.iaload, 1) := by decide +kernel
theorem dX6_put_77 : decode cX6_put 77 = .ok (.ireturn, 1) := by decide +kernel
theorem dX6_sale_0 : decode cX6_sale 0 = .ok (.aload_n 0, 1) := by decide +kernel
theorem dX6_sale_1 : decode cX6_sale 1 = .ok (.getfield 10, 3) := by decide +kernel
theorem dX6_sale_4 : decode cX6_sale 4 = .ok (.iload_n 1, 1) := by decide +kernel
theorem dX6_sale_5 : decode cX6_sale 5 = .ok (.invokevirtual 137, 3) := by decide +kernel
theorem dX6_sale_8 : decode cX6_sale 8 = .ok (.astore 6, 2) := by decide +kernel
theorem dX6_sale_10 : decode cX6_sale 10 = .ok (.aload 6, 2) := by decide +kernel
theorem dX6_sale_12 : decode cX6_sale 12 = .ok (.ifnull 19, 3) := by decide +kernel
theorem dX6_sale_15 : decode cX6_sale 15 = .ok (.aload_n 0, 1) := by decide +kernel
theorem dX6_sale_16 : decode cX6_sale 16 = .ok (.getfield 10, 3) := by decide +kernel
theorem dX6_sale_19 : decode cX6_sale 19 = .ok (.iload_n 2, 1) := by decide +kernel
theorem dX6_sale_20 : decode cX6_sale 20 = .ok (.iload_n 3, 1) := by decide +kernel
theorem dX6_sale_21 : decode cX6_sale 21 = .ok (.iload 4, 2) := by decide +kernel
theorem dX6_sale_23 : decode cX6_sale 23 = .ok (.iload 5, 2) := by decide +kernel
theorem dX6_sale_25 : decode cX6_sale 25 = .ok (.invokevirtual 152, 3) := by decide +kernel
theorem dX6_sale_28 : decode cX6_sale 28 = .ok (.ifCond .ne 5, 3) := by decide +kernel
theorem dX6_sale_31 : decode cX6_sale 31 = .ok (.iconst (-1), 1) := by decide +kernel
theorem dX6_sale_32 : decode cX6_sale 32 = .ok (.ireturn, 1) := by decide +kernel
theorem dX6_sale_33 : decode cX6_sale 33 = .ok (.aload_n 0, 1) := by decide +kernel
theorem dX6_sale_34 : decode cX6_sale 34 = .ok (.getfield 10, 3) := by decide +kernel
theorem dX6_sale_37 : decode cX6_sale 37 = .ok (.iload_n 2, 1) := by decide +kernel
theorem dX6_sale_38 : decode cX6_sale 38 = .ok (.iload_n 3, 1) := by decide +kernel
theorem dX6_sale_39 : decode cX6_sale 39 = .ok (.iload 4, 2) := by decide +kernel
theorem dX6_sale_41 : decode cX6_sale 41 = .ok (.iload 5, 2) := by decide +kernel
theorem dX6_sale_43 : decode cX6_sale 43 = .ok (.invokevirtual 156, 3) := by decide +kernel
theorem dX6_sale_46 : decode cX6_sale 46 = .ok (.istore 7, 2) := by decide +kernel
theorem dX6_sale_48 : decode cX6_sale 48 = .ok (.aload 6, 2) := by decide +kernel
theorem dX6_sale_50 : decode cX6_sale 50 = .ok (.iload_n 3, 1) := by decide +kernel
theorem dX6_sale_51 : decode cX6_sale 51 = .ok (.invokevirtual 144, 3) := by decide +kernel
theorem dX6_sale_54 : decode cX6_sale 54 = .ok (.astore 8, 2) := by decide +kernel
theorem dX6_sale_56 : decode cX6_sale 56 = .ok (.iload 7, 2) := by decide +kernel
theorem dX6_sale_58 : decode cX6_sale 58 = .ok (.ifCond .lt 17, 3) := by decide +kernel
theorem dX6_sale_61 : decode cX6_sale 61 = .ok (.aload 8, 2) := by decide +kernel
theorem dX6_sale_63 : decode cX6_sale 63 = .ok (.iload 4, 2) := by decide +kernel
theorem dX6_sale_65 : decode cX6_sale 65 = .ok (.iaload, 1) := by decide +kernel
theorem dX6_sale_66 : decode cX6_sale 66 = .ok (.iload 5, 2) := by decide +kernel
theorem dX6_sale_68 : decode cX6_sale 68 = .ok (.iadd, 1) := by decide +kernel
theorem dX6_sale_69 : decode cX6_sale 69 = .ok (.sipush 1000, 3) := by decide +kernel
theorem dX6_sale_72 : decode cX6_sale 72 = .ok (.if_icmp .le 5, 3) := by decide +kernel
theorem dX6_sale_75 : decode cX6_sale 75 = .ok (.iconst (-1), 1) := by decide +kernel
theorem dX6_sale_76 : decode cX6_sale 76 = .ok (.ireturn, 1) := by decide +kernel
theorem dX6_sale_77 : decode cX6_sale 77 = .ok (.iload 7, 2) := by decide +kernel
theorem dX6_sale_79 : decode cX6_sale 79 = .ok (.aload_n 0, 1) := by decide +kernel
theorem dX6_sale_80 : decode cX6_sale 80 = .ok (.getfield 10, 3) := by decide +kernel
theorem dX6_sale_83 : decode cX6_sale 83 = .ok (.getfield 61, 3) := by decide +kernel
theorem dX6_sale_86 : decode cX6_sale 86 = .ok (.invokestatic 160, 3) := by decide +kernel
theorem dX6_sale_89 : decode cX6_sale 89 = .ok (.istore 9, 2) := by decide +kernel
theorem dX6_sale_91 : decode cX6_sale 91 = .ok (.aload 8, 2) := by decide +kernel
theorem dX6_sale_93 : decode cX6_sale 93 = .ok (.iload 4, 2) := by decide +kernel
theorem dX6_sale_95 : decode cX6_sale 95 = .ok (.dup2, 1) := by decide +kernel
theorem dX6_sale_96 : decode cX6_sale 96 = .ok (.iaload, 1) := by decide +kernel
theorem dX6_sale_97 : decode cX6_sale 97 = .ok (.iload 5, 2) := by decide +kernel
theorem dX6_sale_99 : decode cX6_sale 99 = .ok (.iadd, 1) := by decide +kernel
theorem dX6_sale_100 : decode cX6_sale 100 = .ok (.iastore, 1) := by decide +kernel
theorem dX6_sale_101 : decode cX6_sale 101 = .ok (.aload_n 0, 1) := by decide +kernel
theorem dX6_sale_102 : decode cX6_sale 102 = .ok (.getfield 27, 3) := by decide +kernel
theorem dX6_sale_105 : decode cX6_sale 105 = .ok (.aload_n 0, 1) := by decide +kernel
theorem dX6_sale_106 : decode cX6_sale 106 = .ok (.getfield 10, 3) := by decide +kernel
theorem dX6_sale_109 : decode cX6_sale 109 = .ok (.getfield 163, 3) := by decide +kernel
theorem dX6_sale_112 : decode cX6_sale 112 = .ok (.aload 6, 2) := by decide +kernel
theorem dX6_sale_114 : decode cX6_sale 114 = .ok (.getfield 167, 3) := by decide +kernel
theorem dX6_sale_117 : decode cX6_sale 117 = .ok (.iload 9, 2) := by decide +kernel
theorem dX6_sale_119 : decode cX6_sale 119 = .ok (.invokevirtual 169, 3) := by decide +kernel
theorem dX6_sale_122 : decode cX6_sale 122 = .ok (.ifCond .ne 15, 3) := by decide +kernel
theorem dX6_sale_125 : decode cX6_sale 125 = .ok (.aload 8, 2) := by decide +kernel
theorem dX6_sale_127 : decode cX6_sale 127 = .ok (.iload 4, 2) := by decide +kernel
theorem dX6_sale_129 : decode cX6_sale 129 = .ok (.dup2, 1) := by decide +kernel
theorem dX6_sale_130 : decode cX6_sale 130 = .ok (.iaload, 1) := by decide +kernel
theorem dX6_sale_131 : decode cX6_sale 131 = .ok (.iload 5, 2) := by decide +kernel
theorem dX6_sale_133 : decode cX6_sale 133 = .ok (.isub, 1) := by decide +kernel
theorem dX6_sale_134 : decode cX6_sale 134 = .ok (.iastore, 1) := by decide +kernel
theorem dX6_sale_135 : decode cX6_sale 135 = .ok (.iconst (-1), 1) := by decide +kernel
theorem dX6_sale_136 : decode cX6_sale 136 = .ok (.ireturn, 1) := by decide +kernel
theorem dX6_sale_137 : decode cX6_sale 137 = .ok (.aload 6, 2) := by decide +kernel
theorem dX6_sale_139 : decode cX6_sale 139 = .ok (.iload_n 2, 1) := by decide +kernel
theorem dX6_sale_140 : decode cX6_sale 140 = .ok (.iload 7, 2) := by decide +kernel
theorem dX6_sale_142 : decode cX6_sale 142 = .ok (.iload 9, 2) := by decide +kernel
theorem dX6_sale_144 : decode cX6_sale 144 = .ok (.aload_n 0, 1) := by decide +kernel
theorem dX6_sale_145 : decode cX6_sale 145 = .ok (.getfield 10, 3) := by decide +kernel
theorem dX6_sale_148 : decode cX6_sale 148 = .ok (.getfield 61, 3) := by decide +kernel
theorem dX6_sale_151 : decode cX6_sale 151 = .ok (.imul, 1) := by decide +kernel
theorem dX6_sale_152 : decode cX6_sale 152 = .ok (.isub, 1) := by decide +kernel
theorem dX6_sale_153 : decode cX6_sale 153 = .ok (.aload_n 0, 1) := by decide +kernel
theorem dX6_sale_154 : decode cX6_sale 154 = .ok (.getfield 27, 3) := by decide +kernel
theorem dX6_sale_157 : decode cX6_sale 157 = .ok (.getfield 173, 3) := by decide +kernel
theorem dX6_sale_160 : decode cX6_sale 160 = .ok (.invokevirtual 176, 3) := by decide +kernel
theorem dX6_sale_163 : decode cX6_sale 163 = .ok (.iload 9, 2) := by decide +kernel
theorem dX6_sale_165 : decode cX6_sale 165 = .ok (.ireturn, 1) := by decide +kernel
theorem dX6_given_0 : decode cX6_given 0 = .ok (.aload_n 0, 1) := by decide +kernel
theorem dX6_given_1 : decode cX6_given 1 = .ok (.getfield 10, 3) := by decide +kernel
theorem dX6_given_4 : decode cX6_given 4 = .ok (.iload_n 1, 1) := by decide +kernel
theorem dX6_given_5 : decode cX6_given 5 = .ok (.invokevirtual 137, 3) := by decide +kernel
theorem dX6_given_8 : decode cX6_given 8 = .ok (.astore_n 3, 1) := by decide +kernel
theorem dX6_given_9 : decode cX6_given 9 = .ok (.aload_n 3, 1) := by decide +kernel
theorem dX6_given_10 : decode cX6_given 10 = .ok (.ifnull 22, 3) := by decide +kernel
theorem dX6_given_13 : decode cX6_given 13 = .ok (.aload_n 3, 1) := by decide +kernel
theorem dX6_given_14 : decode cX6_given 14 = .ok (.getfield 180, 3) := by decide +kernel
theorem dX6_given_17 : decode cX6_given 17 = .ok (.ifCond .eq 15, 3) := by decide +kernel
theorem dX6_given_20 : decode cX6_given 20 = .ok (.aload_n 0, 1) := by decide +kernel
theorem dX6_given_21 : decode cX6_given 21 = .ok (.getfield 10, 3) := by decide +kernel
theorem dX6_given_24 : decode cX6_given 24 = .ok (.iconst 1, 1) := by decide +kernel
theorem dX6_given_25 : decode cX6_given 25 = .ok (.iload_n 2, 1) := by decide +kernel
theorem dX6_given_26 : decode cX6_given 26 = .ok (.invokevirtual 141, 3) := by decide +kernel
theorem dX6_given_29 : decode cX6_given 29 = .ok (.ifCond .ne 7, 3) := by decide +kernel
theorem dX6_given_32 : decode cX6_given 32 = .ok (.iconst (-1), 1) := by decide +kernel
theorem dX6_given_33 : decode cX6_given 33 = .ok (.goto 9, 3) := by decide +kernel
theorem dX6_given_36 : decode cX6_given 36 = .ok (.aload_n 3, 1) := by decide +kernel
theorem dX6_given_37 : decode cX6_given 37 = .ok (.getfield 183, 3) := by decide +kernel
theorem dX6_given_40 : decode cX6_given 40 = .ok (.iload_n 2, 1) := by decide +kernel
theorem dX6_given_41 : decode cX6_given 41 = .ok (.iaload, 1) := by decide +kernel
theorem dX6_given_42 : decode cX6_given 42 = .ok (.ireturn, 1) := by decide +kernel
theorem dX6_tell_0 : decode cX6_tell 0 = .ok (.aload_n 0, 1) := by decide +kernel
theorem dX6_tell_1 : decode cX6_tell 1 = .ok (.getfield 10, 3) := by decide +kernel
theorem dX6_tell_4 : decode cX6_tell 4 = .ok (.iload_n 1, 1) := by decide +kernel
theorem dX6_tell_5 : decode cX6_tell 5 = .ok (.invokevirtual 137, 3) := by decide +kernel
theorem dX6_tell_8 : decode cX6_tell 8 = .ok (.astore_n 3, 1) := by decide +kernel
theorem dX6_tell_9 : decode cX6_tell 9 = .ok (.aload_n 3, 1) := by decide +kernel
theorem dX6_tell_10 : decode cX6_tell 10 = .ok (.ifnonnull 7, 3) := by decide +kernel
theorem dX6_tell_13 : decode cX6_tell 13 = .ok (.ldc2_w 186, 3) := by decide +kernel
theorem dX6_tell_16 : decode cX6_tell 16 = .ok (.lreturn, 1) := by decide +kernel
theorem dX6_tell_17 : decode cX6_tell 17 = .ok (.iload_n 2, 1) := by decide +kernel
theorem dX6_tell_18 : decode cX6_tell 18 = .ok (.tableswitch 111 0 5 #[38, 44, 49, 75, 88, 102], 38) := by decide +kernel
theorem dX6_tell_56 : decode cX6_tell 56 = .ok (.aload_n 3, 1) := by decide +kernel
theorem dX6_tell_57 : decode cX6_tell 57 = .ok (.getfield 180, 3) := by decide +kernel
theorem dX6_tell_60 : decode cX6_tell 60 = .ok (.i2l, 1) := by decide +kernel
theorem dX6_tell_61 : decode cX6_tell 61 = .ok (.lreturn, 1) := by decide +kernel
theorem dX6_tell_62 : decode cX6_tell 62 = .ok (.aload_n 3, 1) := by decide +kernel
theorem dX6_tell_63 : decode cX6_tell 63 = .ok (.getfield 188, 3) := by decide +kernel
theorem dX6_tell_66 : decode cX6_tell 66 = .ok (.lreturn, 1) := by decide +kernel
theorem dX6_tell_67 : decode cX6_tell 67 = .ok (.aload_n 0, 1) := by decide +kernel
theorem dX6_tell_68 : decode cX6_tell 68 = .ok (.getfield 10, 3) := by decide +kernel
theorem dX6_tell_71 : decode cX6_tell 71 = .ok (.iconst 0, 1) := by decide +kernel
theorem dX6_tell_72 : decode cX6_tell 72 = .ok (.aload_n 3, 1) := by decide +kernel
theorem dX6_tell_73 : decode cX6_tell 73 = .ok (.getfield 192, 3) := by decide +kernel
theorem dX6_tell_76 : decode cX6_tell 76 = .ok (.invokevirtual 195, 3) := by decide +kernel
theorem dX6_tell_79 : decode cX6_tell 79 = .ok (.aload_n 0, 1) := by decide +kernel
theorem dX6_tell_80 : decode cX6_tell 80 = .ok (.getfield 10, 3) := by decide +kernel
theorem dX6_tell_83 : decode cX6_tell 83 = .ok (.iconst 1, 1) := by decide +kernel
theorem dX6_tell_84 : decode cX6_tell 84 = .ok (.aload_n 3, 1) := by decide +kernel
theorem dX6_tell_85 : decode cX6_tell 85 = .ok (.getfield 167, 3) := by decide +kernel
theorem dX6_tell_88 : decode cX6_tell 88 = .ok (.invokevirtual 195, 3) := by decide +kernel
theorem dX6_tell_91 : decode cX6_tell 91 = .ok (.ladd, 1) := by decide +kernel
theorem dX6_tell_92 : decode cX6_tell 92 = .ok (.lreturn, 1) := by decide +kernel
theorem dX6_tell_93 : decode cX6_tell 93 = .ok (.aload_n 0, 1) := by decide +kernel
theorem dX6_tell_94 : decode cX6_tell 94 = .ok (.getfield 10, 3) := by decide +kernel
theorem dX6_tell_97 : decode cX6_tell 97 = .ok (.iconst 0, 1) := by decide +kernel
theorem dX6_tell_98 : decode cX6_tell 98 = .ok (.aload_n 3, 1) := by decide +kernel
theorem dX6_tell_99 : decode cX6_tell 99 = .ok (.getfield 192, 3) := by decide +kernel
theorem dX6_tell_102 : decode cX6_tell 102 = .ok (.invokevirtual 195, 3) := by decide +kernel
theorem dX6_tell_105 : decode cX6_tell 105 = .ok (.lreturn, 1) := by decide +kernel
theorem dX6_tell_106 : decode cX6_tell 106 = .ok (.aload_n 3, 1) := by decide +kernel
theorem dX6_tell_107 : decode cX6_tell 107 = .ok (.getfield 199, 3) := by decide +kernel
theorem dX6_tell_110 : decode cX6_tell 110 = .ok (.aload_n 0, 1) := by decide +kernel
theorem dX6_tell_111 : decode cX6_tell 111 = .ok (.getfield 10, 3) := by decide +kernel
theorem dX6_tell_114 : decode cX6_tell 114 = .ok (.getfield 61, 3) := by decide +kernel
theorem dX6_tell_117 : decode cX6_tell 117 = .ok (.i2l, 1) := by decide +kernel
theorem dX6_tell_118 : decode cX6_tell 118 = .ok (.lmul, 1) := by decide +kernel
theorem dX6_tell_119 : decode cX6_tell 119 = .ok (.lreturn, 1) := by decide +kernel
theorem dX6_tell_120 : decode cX6_tell 120 = .ok (.aload_n 3, 1) := by decide +kernel
theorem dX6_tell_121 : decode cX6_tell 121 = .ok (.getfield 202, 3) := by decide +kernel
theorem dX6_tell_124 : decode cX6_tell 124 = .ok (.getfield 206, 3) := by decide +kernel
theorem dX6_tell_127 : decode cX6_tell 127 = .ok (.i2l, 1) := by decide +kernel
theorem dX6_tell_128 : decode cX6_tell 128 = .ok (.lreturn, 1) := by decide +kernel
theorem dX6_tell_129 : decode cX6_tell 129 = .ok (.ldc2_w 186, 3) := by decide +kernel
theorem dX6_tell_132 : decode cX6_tell 132 = .ok (.lreturn, 1) := by decide +kernel
theorem dX6_has_0 : decode cX6_has 0 = .ok (.aload_n 0, 1) := by decide +kernel
theorem dX6_has_1 : decode cX6_has 1 = .ok (.getfield 10, 3) := by decide +kernel
theorem dX6_has_4 : decode cX6_has 4 = .ok (.iload_n 1, 1) := by decide +kernel
theorem dX6_has_5 : decode cX6_has 5 = .ok (.invokevirtual 137, 3) := by decide +kernel
theorem dX6_has_8 : decode cX6_has 8 = .ok (.astore 4, 2) := by decide +kernel
theorem dX6_has_10 : decode cX6_has 10 = .ok (.aload 4, 2) := by decide +kernel
theorem dX6_has_12 : decode cX6_has 12 = .ok (.ifnull 15, 3) := by decide +kernel
theorem dX6_has_15 : decode cX6_has 15 = .ok (.aload_n 0, 1) := by decide +kernel
theorem dX6_has_16 : decode cX6_has 16 = .ok (.getfield 10, 3) := by decide +kernel
theorem dX6_has_19 : decode cX6_has 19 = .ok (.iload_n 2, 1) := by decide +kernel
theorem dX6_has_20 : decode cX6_has 20 = .ok (.iload_n 3, 1) := by decide +kernel
theorem dX6_has_21 : decode cX6_has 21 = .ok (.invokevirtual 141, 3) := by decide +kernel
theorem dX6_has_24 : decode cX6_has 24 = .ok (.ifCond .ne 7, 3) := by decide +kernel
theorem dX6_has_27 : decode cX6_has 27 = .ok (.iconst (-1), 1) := by decide +kernel
theorem dX6_has_28 : decode cX6_has 28 = .ok (.goto 11, 3) := by decide +kernel
theorem dX6_has_31 : decode cX6_has 31 = .ok (.aload 4, 2) := by decide +kernel
theorem dX6_has_33 : decode cX6_has 33 = .ok (.iload_n 2, 1) := by decide +kernel
theorem dX6_has_34 : decode cX6_has 34 = .ok (.invokevirtual 144, 3) := by decide +kernel
theorem dX6_has_37 : decode cX6_has 37 = .ok (.iload_n 3, 1) := by decide +kernel
theorem dX6_has_38 : decode cX6_has 38 = .ok (.iaload, 1) := by decide +kernel
theorem dX6_has_39 : decode cX6_has 39 = .ok (.ireturn, 1) := by decide +kernel
theorem dX6_draw_0 : decode cX6_draw 0 = .ok (.aload_n 0, 1) := by decide +kernel
theorem dX6_draw_1 : decode cX6_draw 1 = .ok (.getfield 10, 3) := by decide +kernel
theorem dX6_draw_4 : decode cX6_draw 4 = .ok (.iload_n 1, 1) := by decide +kernel
theorem dX6_draw_5 : decode cX6_draw 5 = .ok (.invokevirtual 137, 3) := by decide +kernel
theorem dX6_draw_8 : decode cX6_draw 8 = .ok (.astore_n 2, 1) := by decide +kernel
theorem dX6_draw_9 : decode cX6_draw 9 = .ok (.aload_n 2, 1) := by decide +kernel
theorem dX6_draw_10 : decode cX6_draw 10 = .ok (.ifnonnull 7, 3) := by decide +kernel
theorem dX6_draw_13 : decode cX6_draw 13 = .ok (.ldc2_w 186, 3) := by decide +kernel
theorem dX6_draw_16 : decode cX6_draw 16 = .ok (.lreturn, 1) := by decide +kernel
theorem dX6_draw_17 : decode cX6_draw 17 = .ok (.aload_n 0, 1) := by decide +kernel
theorem dX6_draw_18 : decode cX6_draw 18 = .ok (.getfield 10, 3) := by decide +kernel
theorem dX6_draw_21 : decode cX6_draw 21 = .ok (.iconst 0, 1) := by decide +kernel
theorem dX6_draw_22 : decode cX6_draw 22 = .ok (.aload_n 2, 1) := by decide +kernel
theorem dX6_draw_23 : decode cX6_draw 23 = .ok (.getfield 192, 3) := by decide +kernel
theorem dX6_draw_26 : decode cX6_draw 26 = .ok (.invokevirtual 195, 3) := by decide +kernel
theorem dX6_draw_29 : decode cX6_draw 29 = .ok (.lstore_n 3, 1) := by decide +kernel
theorem dX6_draw_30 : decode cX6_draw 30 = .ok (.iconst 0, 1) := by decide +kernel
theorem dX6_draw_31 : decode cX6_draw 31 = .ok (.istore 5, 2) := by decide +kernel
theorem dX6_draw_33 : decode cX6_draw 33 = .ok (.iload 5, 2) := by decide +kernel
theorem dX6_draw_35 : decode cX6_draw 35 = .ok (.bipush 8, 2) := by decide +kernel
theorem dX6_draw_37 : decode cX6_draw 37 = .ok (.if_icmp .ge 37, 3) := by decide +kernel
theorem dX6_draw_40 : decode cX6_draw 40 = .ok (.aload_n 0, 1) := by decide +kernel
theorem dX6_draw_41 : decode cX6_draw 41 = .ok (.getfield 10, 3) := by decide +kernel
theorem dX6_draw_44 : decode cX6_draw 44 = .ok (.getfield 209, 3) := by decide +kernel
theorem dX6_draw_47 : decode cX6_draw 47 = .ok (.iload 5, 2) := by decide +kernel
theorem dX6_draw_49 : decode cX6_draw 49 = .ok (.dup2, 1) := by decide +kernel
theorem dX6_draw_50 : decode cX6_draw 50 = .ok (.iaload, 1) := by decide +kernel
theorem dX6_draw_51 : decode cX6_draw 51 = .ok (.aload_n 2, 1) := by decide +kernel
theorem dX6_draw_52 : decode cX6_draw 52 = .ok (.getfield 192, 3) := by decide +kernel
theorem dX6_draw_55 : decode cX6_draw 55 = .ok (.iload 5, 2) := by decide +kernel
theorem dX6_draw_57 : decode cX6_draw 57 = .ok (.iaload, 1) := by decide +kernel
theorem dX6_draw_58 : decode cX6_draw 58 = .ok (.iadd, 1) := by decide +kernel
theorem dX6_draw_59 : decode cX6_draw 59 = .ok (.iastore, 1) := by decide +kernel
theorem dX6_draw_60 : decode cX6_draw 60 = .ok (.aload_n 2, 1) := by decide +kernel
theorem dX6_draw_61 : decode cX6_draw 61 = .ok (.getfield 192, 3) := by decide +kernel
theorem dX6_draw_64 : decode cX6_draw 64 = .ok (.iload 5, 2) := by decide +kernel
theorem dX6_draw_66 : decode cX6_draw 66 = .ok (.iconst 0, 1) := by decide +kernel
theorem dX6_draw_67 : decode cX6_draw 67 = .ok (.iastore, 1) := by decide +kernel
theorem dX6_draw_68 : decode cX6_draw 68 = .ok (.iinc 5 1, 3) := by decide +kernel
theorem dX6_draw_71 : decode cX6_draw 71 = .ok (.goto (-38), 3) := by decide +kernel
theorem dX6_draw_74 : decode cX6_draw 74 = .ok (.lload_n 3, 1) := by decide +kernel
theorem dX6_draw_75 : decode cX6_draw 75 = .ok (.lreturn, 1) := by decide +kernel
theorem dX6_drawn_0 : decode cX6_drawn 0 = .ok (.aload_n 0, 1) := by decide +kernel
theorem dX6_drawn_1 : decode cX6_drawn 1 = .ok (.getfield 10, 3) := by decide +kernel
theorem dX6_drawn_4 : decode cX6_drawn 4 = .ok (.iconst 0, 1) := by decide +kernel
theorem dX6_drawn_5 : decode cX6_drawn 5 = .ok (.iload_n 1, 1) := by decide +kernel
theorem dX6_drawn_6 : decode cX6_drawn 6 = .ok (.invokevirtual 141, 3) := by decide +kernel
theorem dX6_drawn_9 : decode cX6_drawn 9 = .ok (.ifCond .eq 15, 3) := by decide +kernel
theorem dX6_drawn_12 : decode cX6_drawn 12 = .ok (.aload_n 0, 1) := by decide +kernel
theorem dX6_drawn_13 : decode cX6_drawn 13 = .ok (.getfield 10, 3) := by decide +kernel
theorem dX6_drawn_16 : decode cX6_drawn 16 = .ok (.getfield 209, 3) := by decide +kernel
theorem dX6_drawn_19 : decode cX6_drawn 19 = .ok (.iload_n 1, 1) := by decide +kernel
theorem dX6_drawn_20 : decode cX6_drawn 20 = .ok (.iaload, 1) := by decide +kernel
theorem dX6_drawn_21 : decode cX6_drawn 21 = .ok (.goto 4, 3) := by decide +kernel
theorem dX6_drawn_24 : decode cX6_drawn 24 = .ok (.iconst (-1), 1) := by decide +kernel
theorem dX6_drawn_25 : decode cX6_drawn 25 = .ok (.ireturn, 1) := by decide +kernel
theorem dX6_expect_0 : decode cX6_expect 0 = .ok (.aload_n 0, 1) := by decide +kernel
theorem dX6_expect_1 : decode cX6_expect 1 = .ok (.getfield 10, 3) := by decide +kernel
theorem dX6_expect_4 : decode cX6_expect 4 = .ok (.iload_n 1, 1) := by decide +kernel
theorem dX6_expect_5 : decode cX6_expect 5 = .ok (.invokevirtual 137, 3) := by decide +kernel
theorem dX6_expect_8 : decode cX6_expect 8 = .ok (.astore 6, 2) := by decide +kernel
theorem dX6_expect_10 : decode cX6_expect 10 = .ok (.aload 6, 2) := by decide +kernel
theorem dX6_expect_12 : decode cX6_expect 12 = .ok (.ifnull 19, 3) := by decide +kernel
theorem dX6_expect_15 : decode cX6_expect 15 = .ok (.aload_n 0, 1) := by decide +kernel
theorem dX6_expect_16 : decode cX6_expect 16 = .ok (.getfield 10, 3) := by decide +kernel
theorem dX6_expect_19 : decode cX6_expect 19 = .ok (.iload_n 2, 1) := by decide +kernel
theorem dX6_expect_20 : decode cX6_expect 20 = .ok (.iload_n 3, 1) := by decide +kernel
theorem dX6_expect_21 : decode cX6_expect 21 = .ok (.iload 4, 2) := by decide +kernel
theorem dX6_expect_23 : decode cX6_expect 23 = .ok (.iload 5, 2) := by decide +kernel
theorem dX6_expect_25 : decode cX6_expect 25 = .ok (.invokevirtual 152, 3) := by decide +kernel
theorem dX6_expect_28 : decode cX6_expect 28 = .ok (.ifCond .ne 7, 3) := by decide +kernel
theorem dX6_expect_31 : decode cX6_expect 31 = .ok (.iconst (-1), 1) := by decide +kernel
theorem dX6_expect_32 : decode cX6_expect 32 = .ok (.goto 17, 3) := by decide +kernel
theorem dX6_expect_35 : decode cX6_expect 35 = .ok (.aload 6, 2) := by decide +kernel
theorem dX6_expect_37 : decode cX6_expect 37 = .ok (.getfield 202, 3) := by decide +kernel
theorem dX6_expect_40 : decode cX6_expect 40 = .ok (.iload_n 2, 1) := by decide +kernel
theorem dX6_expect_41 : decode cX6_expect 41 = .ok (.iload_n 3, 1) := by decide +kernel
theorem dX6_expect_42 : decode cX6_expect 42 = .ok (.iload 4, 2) := by decide +kernel
theorem dX6_expect_44 : decode cX6_expect 44 = .ok (.iload 5, 2) := by decide +kernel
theorem dX6_expect_46 : decode cX6_expect 46 = .ok (.invokevirtual 212, 3) := by decide +kernel
theorem dX6_expect_49 : decode cX6_expect 49 = .ok (.ireturn, 1) := by decide +kernel
theorem dX6_forget_0 : decode cX6_forget 0 = .ok (.aload_n 0, 1) := by decide +kernel
theorem dX6_forget_1 : decode cX6_forget 1 = .ok (.getfield 10, 3) := by decide +kernel
theorem dX6_forget_4 : decode cX6_forget 4 = .ok (.iload_n 1, 1) := by decide +kernel
theorem dX6_forget_5 : decode cX6_forget 5 = .ok (.invokevirtual 137, 3) := by decide +kernel
theorem dX6_forget_8 : decode cX6_forget 8 = .ok (.astore_n 2, 1) := by decide +kernel
theorem dX6_forget_9 : decode cX6_forget 9 = .ok (.aload_n 2, 1) := by decide +kernel
theorem dX6_forget_10 : decode cX6_forget 10 = .ok (.ifnonnull 5, 3) := by decide +kernel
theorem dX6_forget_13 : decode cX6_forget 13 = .ok (.iconst 0, 1) := by decide +kernel
theorem dX6_forget_14 : decode cX6_forget 14 = .ok (.ireturn, 1) := by decide +kernel
theorem dX6_forget_15 : decode cX6_forget 15 = .ok (.aload_n 2, 1) := by decide +kernel
theorem dX6_forget_16 : decode cX6_forget 16 = .ok (.getfield 202, 3) := by decide +kernel
theorem dX6_forget_19 : decode cX6_forget 19 = .ok (.iconst 0, 1) := by decide +kernel
theorem dX6_forget_20 : decode cX6_forget 20 = .ok (.putfield 206, 3) := by decide +kernel
theorem dX6_forget_23 : decode cX6_forget 23 = .ok (.iconst 1, 1) := by decide +kernel
theorem dX6_forget_24 : decode cX6_forget 24 = .ok (.ireturn, 1) := by decide +kernel
theorem dX6_wanted_0 : decode cX6_wanted 0 = .ok (.aload_n 0, 1) := by decide +kernel
theorem dX6_wanted_1 : decode cX6_wanted 1 = .ok (.getfield 10, 3) := by decide +kernel
theorem dX6_wanted_4 : decode cX6_wanted 4 = .ok (.iload_n 1, 1) := by decide +kernel
theorem dX6_wanted_5 : decode cX6_wanted 5 = .ok (.invokevirtual 137, 3) := by decide +kernel
theorem dX6_wanted_8 : decode cX6_wanted 8 = .ok (.astore_n 3, 1) := by decide +kernel
theorem dX6_wanted_9 : decode cX6_wanted 9 = .ok (.aload_n 3, 1) := by decide +kernel
theorem dX6_wanted_10 : decode cX6_wanted 10 = .ok (.ifnull 15, 3) := by decide +kernel
theorem dX6_wanted_13 : decode cX6_wanted 13 = .ok (.aload_n 0, 1) := by decide +kernel
theorem dX6_wanted_14 : decode cX6_wanted 14 = .ok (.getfield 10, 3) := by decide +kernel
theorem dX6_wanted_17 : decode cX6_wanted 17 = .ok (.iconst 1, 1) := by decide +kernel
theorem dX6_wanted_18 : decode cX6_wanted 18 = .ok (.iload_n 2, 1) := by decide +kernel
theorem dX6_wanted_19 : decode cX6_wanted 19 = .ok (.invokevirtual 141, 3) := by decide +kernel
theorem dX6_wanted_22 : decode cX6_wanted 22 = .ok (.ifCond .ne 7, 3) := by decide +kernel
theorem dX6_wanted_25 : decode cX6_wanted 25 = .ok (.iconst (-1), 1) := by decide +kernel
theorem dX6_wanted_26 : decode cX6_wanted 26 = .ok (.goto 12, 3) := by decide +kernel
theorem dX6_wanted_29 : decode cX6_wanted 29 = .ok (.aload_n 0, 1) := by decide +kernel
theorem dX6_wanted_30 : decode cX6_wanted 30 = .ok (.aload_n 3, 1) := by decide +kernel
theorem dX6_wanted_31 : decode cX6_wanted 31 = .ok (.getfield 202, 3) := by decide +kernel
theorem dX6_wanted_34 : decode cX6_wanted 34 = .ok (.iload_n 2, 1) := by decide +kernel
theorem dX6_wanted_35 : decode cX6_wanted 35 = .ok (.invokevirtual 214, 3) := by decide +kernel
theorem dX6_wanted_38 : decode cX6_wanted 38 = .ok (.ireturn, 1) := by decide +kernel
theorem dX6_about_0 : decode cX6_about 0 = .ok (.iload_n 1, 1) := by decide +kernel
theorem dX6_about_1 : decode cX6_about 1 = .ok (.iconst 2, 1) := by decide +kernel
theorem dX6_about_2 : decode cX6_about 2 = .ok (.if_icmp .ne 12, 3) := by decide +kernel
theorem dX6_about_5 : decode cX6_about 5 = .ok (.aload_n 0, 1) := by decide +kernel
theorem dX6_about_6 : decode cX6_about 6 = .ok (.getfield 10, 3) := by decide +kernel
theorem dX6_about_9 : decode cX6_about 9 = .ok (.iload_n 2, 1) := by decide +kernel
theorem dX6_about_10 : decode cX6_about 10 = .ok (.invokevirtual 218, 3) := by decide +kernel
theorem dX6_about_13 : decode cX6_about 13 = .ok (.ireturn, 1) := by decide +kernel
theorem dX6_about_14 : decode cX6_about 14 = .ok (.aload_n 0, 1) := by decide +kernel
theorem dX6_about_15 : decode cX6_about 15 = .ok (.getfield 10, 3) := by decide +kernel
theorem dX6_about_18 : decode cX6_about 18 = .ok (.iload_n 1, 1) := by decide +kernel
theorem dX6_about_19 : decode cX6_about 19 = .ok (.invokevirtual 39, 3) := by decide +kernel
theorem dX6_about_22 : decode cX6_about 22 = .ok (.astore_n 3, 1) := by decide +kernel
theorem dX6_about_23 : decode cX6_about 23 = .ok (.aload_n 3, 1) := by decide +kernel
theorem dX6_about_24 : decode cX6_about 24 = .ok (.ifnonnull 7, 3) := by decide +kernel
theorem dX6_about_27 : decode cX6_about 27 = .ok (.iconst (-1), 1) := by decide +kernel
theorem dX6_about_28 : decode cX6_about 28 = .ok (.goto 8, 3) := by decide +kernel
theorem dX6_about_31 : decode cX6_about 31 = .ok (.aload_n 3, 1) := by decide +kernel
theorem dX6_about_32 : decode cX6_about 32 = .ok (.iload_n 2, 1) := by decide +kernel
theorem dX6_about_33 : decode cX6_about 33 = .ok (.invokevirtual 221, 3) := by decide +kernel
theorem dX6_about_36 : decode cX6_about 36 = .ok (.ireturn, 1) := by decide +kernel
theorem dX6_image_0 : decode cX6_image 0 = .ok (.iconst 0, 1) := by decide +kernel
theorem dX6_image_1 : decode cX6_image 1 = .ok (.iload_n 1, 1) := by decide +kernel
theorem dX6_image_2 : decode cX6_image 2 = .ok (.iconst 2, 1) := by decide +kernel
theorem dX6_image_3 : decode cX6_image 3 = .ok (.invokestatic 49, 3) := by decide +kernel
theorem dX6_image_6 : decode cX6_image 6 = .ok (.ifCond .ne 5, 3) := by decide +kernel
theorem dX6_image_9 : decode cX6_image 9 = .ok (.iconst 0, 1) := by decide +kernel
theorem dX6_image_10 : decode cX6_image 10 = .ok (.ireturn, 1) := by decide +kernel
theorem dX6_image_11 : decode cX6_image 11 = .ok (.aload_n 0, 1) := by decide +kernel
theorem dX6_image_12 : decode cX6_image 12 = .ok (.getfield 16, 3) := by decide +kernel
theorem dX6_image_15 : decode cX6_image 15 = .ok (.iload_n 1, 1) := by decide +kernel
theorem dX6_image_16 : decode cX6_image 16 = .ok (.aaload, 1) := by decide +kernel
theorem dX6_image_17 : decode cX6_image 17 = .ok (.aload_n 0, 1) := by decide +kernel
theorem dX6_image_18 : decode cX6_image 18 = .ok (.getfield 10, 3) := by decide +kernel
theorem dX6_image_21 : decode cX6_image 21 = .ok (.invokevirtual 222, 3) := by decide +kernel
theorem dX6_image_24 : decode cX6_image 24 = .ok (.aload_n 0, 1) := by decide +kernel
theorem dX6_image_25 : decode cX6_image 25 = .ok (.getfield 20, 3) := by decide +kernel
theorem dX6_image_28 : decode cX6_image 28 = .ok (.iload_n 1, 1) := by decide +kernel
theorem dX6_image_29 : decode cX6_image 29 = .ok (.iconst 1, 1) := by decide +kernel
theorem dX6_image_30 : decode cX6_image 30 = .ok (.bastore, 1) := by decide +kernel
theorem dX6_image_31 : decode cX6_image 31 = .ok (.iconst 1, 1) := by decide +kernel
theorem dX6_image_32 : decode cX6_image 32 = .ok (.ireturn, 1) := by decide +kernel
theorem dX6_again_0 : decode cX6_again 0 = .ok (.iconst 0, 1) := by decide +kernel
theorem dX6_again_1 : decode cX6_again 1 = .ok (.iload_n 1, 1) := by decide +kernel
theorem dX6_again_2 : decode cX6_again 2 = .ok (.iconst 2, 1) := by decide +kernel
theorem dX6_again_3 : decode cX6_again 3 = .ok (.invokestatic 49, 3) := by decide +kernel
theorem dX6_again_6 : decode cX6_again 6 = .ok (.ifCond .eq 12, 3) := by decide +kernel
theorem dX6_again_9 : decode cX6_again 9 = .ok (.aload_n 0, 1) := by decide +kernel
theorem dX6_again_10 : decode cX6_again 10 = .ok (.getfield 20, 3) := by decide +kernel
theorem dX6_again_13 : decode cX6_again 13 = .ok (.iload_n 1, 1) := by decide +kernel
theorem dX6_again_14 : decode cX6_again 14 = .ok (.baload, 1) := by decide +kernel
theorem dX6_again_15 : decode cX6_again 15 = .ok (.ifCond .ne 5, 3) := by decide +kernel
theorem dX6_again_18 : decode cX6_again 18 = .ok (.iconst 0, 1) := by decide +kernel
theorem dX6_again_19 : decode cX6_again 19 = .ok (.ireturn, 1) := by decide +kernel
theorem dX6_again_20 : decode cX6_again 20 = .ok (.aload_n 0, 1) := by decide +kernel
theorem dX6_again_21 : decode cX6_again 21 = .ok (.getfield 10, 3) := by decide +kernel
theorem dX6_again_24 : decode cX6_again 24 = .ok (.aload_n 0, 1) := by decide +kernel
theorem dX6_again_25 : decode cX6_again 25 = .ok (.getfield 16, 3) := by decide +kernel
theorem dX6_again_28 : decode cX6_again 28 = .ok (.iload_n 1, 1) := by decide +kernel
theorem dX6_again_29 : decode cX6_again 29 = .ok (.aaload, 1) := by decide +kernel
theorem dX6_again_30 : decode cX6_again 30 = .ok (.invokevirtual 222, 3) := by decide +kernel
theorem dX6_again_33 : decode cX6_again 33 = .ok (.iconst 1, 1) := by decide +kernel
theorem dX6_again_34 : decode cX6_again 34 = .ok (.ireturn, 1) := by decide +kernel
theorem dX6_within_0 : decode cX6_within 0 = .ok (.iload_n 0, 1) := by decide +kernel
theorem dX6_within_1 : decode cX6_within 1 = .ok (.iload_n 1, 1) := by decide +kernel
theorem dX6_within_2 : decode cX6_within 2 = .ok (.if_icmp .gt 12, 3) := by decide +kernel
theorem dX6_within_5 : decode cX6_within 5 = .ok (.iload_n 1, 1) := by decide +kernel
theorem dX6_within_6 : decode cX6_within 6 = .ok (.iload_n 2, 1) := by decide +kernel
theorem dX6_within_7 : decode cX6_within 7 = .ok (.if_icmp .gt 7, 3) := by decide +kernel
theorem dX6_within_10 : decode cX6_within 10 = .ok (.iconst 1, 1) := by decide +kernel
theorem dX6_within_11 : decode cX6_within 11 = .ok (.goto 4, 3) := by decide +kernel
theorem dX6_within_14 : decode cX6_within 14 = .ok (.iconst 0, 1) := by decide +kernel
theorem dX6_within_15 : decode cX6_within 15 = .ok (.ireturn, 1) := by decide +kernel
theorem dX6_isRule_0 : decode cX6_isRule 0 = .ok (.iconst 0, 1) := by decide +kernel
theorem dX6_isRule_1 : decode cX6_isRule 1 = .ok (.iload_n 0, 1) := by decide +kernel
theorem dX6_isRule_2 : decode cX6_isRule 2 = .ok (.iconst 3, 1) := by decide +kernel
theorem dX6_isRule_3 : decode cX6_isRule 3 = .ok (.invokestatic 49, 3) := by decide +kernel
theorem dX6_isRule_6 : decode cX6_isRule 6 = .ok (.ireturn, 1) := by decide +kernel
theorem dX6_isSum_0 : decode cX6_isSum 0 = .ok (.iconst 0, 1) := by decide +kernel
theorem dX6_isSum_1 : decode cX6_isSum 1 = .ok (.iload_n 0, 1) := by decide +kernel
theorem dX6_isSum_2 : decode cX6_isSum 2 = .ok (.sipush 2000, 3) := by decide +kernel
theorem dX6_isSum_5 : decode cX6_isSum 5 = .ok (.invokestatic 49, 3) := by decide +kernel
theorem dX6_isSum_8 : decode cX6_isSum 8 = .ok (.ireturn, 1) := by decide +kernel
theorem dX6_wholeTimes_0 : decode cX6_wholeTimes 0 = .ok (.iload_n 1, 1) := by decide +kernel
theorem dX6_wholeTimes_1 : decode cX6_wholeTimes 1 = .ok (.iconst 1, 1) := by decide +kernel
theorem dX6_wholeTimes_2 : decode cX6_wholeTimes 2 = .ok (.if_icmp .ge 7, 3) := by decide +kernel
theorem dX6_wholeTimes_5 : decode cX6_wholeTimes 5 = .ok (.iconst 0, 1) := by decide +kernel
theorem dX6_wholeTimes_6 : decode cX6_wholeTimes 6 = .ok (.goto 6, 3) := by decide +kernel
theorem dX6_wholeTimes_9 : decode cX6_wholeTimes 9 = .ok (.iload_n 0, 1) := by decide +kernel
theorem dX6_wholeTimes_10 : decode cX6_wholeTimes 10 = .ok (.iload_n 1, 1) := by decide +kernel
theorem dX6_wholeTimes_11 : decode cX6_wholeTimes 11 = .ok (.idiv, 1) := by decide +kernel
theorem dX6_wholeTimes_12 : decode cX6_wholeTimes 12 = .ok (.ireturn, 1) := by decide +kernel
theorem dX6_startOfWays_0 : decode cX6_startOfWays 0 = .ok (.lconst 0, 1) := by decide +kernel
theorem dX6_startOfWays_1 : decode cX6_startOfWays 1 = .ok (.lstore_n 1, 1) := by decide +kernel
theorem dX6_startOfWays_2 : decode cX6_startOfWays 2 = .ok (.lconst 0, 1) := by decide +kernel
theorem dX6_startOfWays_3 : decode cX6_startOfWays 3 = .ok (.lstore_n 3, 1) := by decide +kernel
theorem dX6_startOfWays_4 : decode cX6_startOfWays 4 = .ok (.iconst 0, 1) := by decide +kernel
theorem dX6_startOfWays_5 : decode cX6_startOfWays 5 = .ok (.istore 5, 2) := by decide +kernel
theorem dX6_startOfWays_7 : decode cX6_startOfWays 7 = .ok (.iload 5, 2) := by decide +kernel
theorem dX6_startOfWays_9 : decode cX6_startOfWays 9 = .ok (.aload_n 0, 1) := by decide +kernel
theorem dX6_startOfWays_10 : decode cX6_startOfWays 10 = .ok (.getfield 10, 3) := by decide +kernel
theorem dX6_startOfWays_13 : decode cX6_startOfWays 13 = .ok (.getfield 64, 3) := by decide +kernel
theorem dX6_startOfWays_16 : decode cX6_startOfWays 16 = .ok (.getfield 89, 3) := by decide +kernel
theorem dX6_startOfWays_19 : decode cX6_startOfWays 19 = .ok (.if_icmp .ge 57, 3) := by decide +kernel
theorem dX6_startOfWays_22 : decode cX6_startOfWays 22 = .ok (.aload_n 0, 1) := by decide +kernel
theorem dX6_startOfWays_23 : decode cX6_startOfWays 23 = .ok (.getfield 10, 3) := by decide +kernel
theorem dX6_startOfWays_26 : decode cX6_startOfWays 26 = .ok (.iload 5, 2) := by decide +kernel
theorem dX6_startOfWays_28 : decode cX6_startOfWays 28 = .ok (.iconst 0, 1) := by decide +kernel
theorem dX6_startOfWays_29 : decode cX6_startOfWays 29 = .ok (.invokevirtual 92, 3) := by decide +kernel
theorem dX6_startOfWays_32 : decode cX6_startOfWays 32 = .ok (.lstore 6, 2) := by decide +kernel
theorem dX6_startOfWays_34 : decode cX6_startOfWays 34 = .ok (.aload_n 0, 1) := by decide +kernel
theorem dX6_startOfWays_35 : decode cX6_startOfWays 35 = .ok (.getfield 10, 3) := by decide +kernel
theorem dX6_startOfWays_38 : decode cX6_startOfWays 38 = .ok (.iload 5, 2) := by decide +kernel
theorem dX6_startOfWays_40 : decode cX6_startOfWays 40 = .ok (.iconst 1, 1) := by decide +kernel
theorem dX6_startOfWays_41 : decode cX6_startOfWays 41 = .ok (.invokevirtual 92, 3) := by decide +kernel
theorem dX6_startOfWays_44 : decode cX6_startOfWays 44 = .ok (.lload 6, 2) := by decide +kernel
theorem dX6_startOfWays_46 : decode cX6_startOfWays 46 = .ok (.lsub, 1) := by decide +kernel
theorem dX6_startOfWays_47 : decode cX6_startOfWays 47 = .ok (.lstore 8, 2) := by decide +kernel
theorem dX6_startOfWays_49 : decode cX6_startOfWays 49 = .ok (.aload_n 0, 1) := by decide +kernel
theorem dX6_startOfWays_50 : decode cX6_startOfWays 50 = .ok (.getfield 35, 3) := by decide +kernel
theorem dX6_startOfWays_53 : decode cX6_startOfWays 53 = .ok (.iload 5, 2) := by decide +kernel
theorem dX6_startOfWays_55 : decode cX6_startOfWays 55 = .ok (.lload 8, 2) := by decide +kernel
theorem dX6_startOfWays_57 : decode cX6_startOfWays 57 = .ok (.lload_n 3, 1) := by decide +kernel
theorem dX6_startOfWays_58 : decode cX6_startOfWays 58 = .ok (.lsub, 1) := by decide +kernel
theorem dX6_startOfWays_59 : decode cX6_startOfWays 59 = .ok (.lastore, 1) := by decide +kernel
theorem dX6_startOfWays_60 : decode cX6_startOfWays 60 = .ok (.lload_n 3, 1) := by decide +kernel
theorem dX6_startOfWays_61 : decode cX6_startOfWays 61 = .ok (.lload 8, 2) := by decide +kernel
theorem dX6_startOfWays_63 : decode cX6_startOfWays 63 = .ok (.ladd, 1) := by decide +kernel
theorem dX6_startOfWays_64 : decode cX6_startOfWays 64 = .ok (.lstore_n 3, 1) := by decide +kernel
theorem dX6_startOfWays_65 : decode cX6_startOfWays 65 = .ok (.lload_n 1, 1) := by decide +kernel
theorem dX6_startOfWays_66 : decode cX6_startOfWays 66 = .ok (.lload 6, 2) := by decide +kernel
theorem dX6_startOfWays_68 : decode cX6_startOfWays 68 = .ok (.ladd, 1) := by decide +kernel
theorem dX6_startOfWays_69 : decode cX6_startOfWays 69 = .ok (.lstore_n 1, 1) := by decide +kernel
theorem dX6_startOfWays_70 : decode cX6_startOfWays 70 = .ok (.iinc 5 1, 3) := by decide +kernel
theorem dX6_startOfWays_73 : decode cX6_startOfWays 73 = .ok (.goto (-66), 3) := by decide +kernel
theorem dX6_startOfWays_76 : decode cX6_startOfWays 76 = .ok (.lload_n 1, 1) := by decide +kernel
theorem dX6_startOfWays_77 : decode cX6_startOfWays 77 = .ok (.lreturn, 1) := by decide +kernel
theorem dX6_mostLacking_0 : decode cX6_mostLacking 0 = .ok (.iconst 0, 1) := by decide +kernel
theorem dX6_mostLacking_1 : decode cX6_mostLacking 1 = .ok (.istore_n 3, 1) := by decide +kernel
theorem dX6_mostLacking_2 : decode cX6_mostLacking 2 = .ok (.iconst 0, 1) := by decide +kernel
theorem dX6_mostLacking_3 : decode cX6_mostLacking 3 = .ok (.istore 4, 2) := by decide +kernel
theorem dX6_mostLacking_5 : decode cX6_mostLacking 5 = .ok (.iconst 0, 1) := by decide +kernel
theorem dX6_mostLacking_6 : decode cX6_mostLacking 6 = .ok (.istore 5, 2) := by decide +kernel
theorem dX6_mostLacking_8 : decode cX6_mostLacking 8 = .ok (.iload 5, 2) := by decide +kernel
theorem dX6_mostLacking_10 : decode cX6_mostLacking 10 = .ok (.aload_n 1, 1) := by decide +kernel
theorem dX6_mostLacking_11 : decode cX6_mostLacking 11 = .ok (.getfield 206, 3) := by decide +kernel
theorem dX6_mostLacking_14 : decode cX6_mostLacking 14 = .ok (.if_icmp .ge 151, 3) := by decide +kernel
theorem dX6_mostLacking_17 : decode cX6_mostLacking 17 = .ok (.aload_n 1, 1) := by decide +kernel
theorem dX6_mostLacking_18 : decode cX6_mostLacking 18 = .ok (.getfield 226, 3) := by decide +kernel
theorem dX6_mostLacking_21 : decode cX6_mostLacking 21 = .ok (.iload 5, 2) := by decide +kernel
theorem dX6_mostLacking_23 : decode cX6_mostLacking 23 = .ok (.iaload, 1) := by decide +kernel
theorem dX6_mostLacking_24 : decode cX6_mostLacking 24 = .ok (.istore 6, 2) := by decide +kernel
theorem dX6_mostLacking_26 : decode cX6_mostLacking 26 = .ok (.aload_n 0, 1) := by decide +kernel
theorem dX6_mostLacking_27 : decode cX6_mostLacking 27 = .ok (.getfield 10, 3) := by decide +kernel
theorem dX6_mostLacking_30 : decode cX6_mostLacking 30 = .ok (.aload_n 1, 1) := by decide +kernel
theorem dX6_mostLacking_31 : decode cX6_mostLacking 31 = .ok (.getfield 229, 3) := by decide +kernel
theorem dX6_mostLacking_34 : decode cX6_mostLacking 34 = .ok (.iload 5, 2) := by decide +kernel
theorem dX6_mostLacking_36 : decode cX6_mostLacking 36 = .ok (.iaload, 1) := by decide +kernel
theorem dX6_mostLacking_37 : decode cX6_mostLacking 37 = .ok (.aload_n 1, 1) := by decide +kernel
theorem dX6_mostLacking_38 : decode cX6_mostLacking 38 = .ok (.getfield 232, 3) := by decide +kernel
theorem dX6_mostLacking_41 : decode cX6_mostLacking 41 = .ok (.iload 5, 2) := by decide +kernel
theorem dX6_mostLacking_43 : decode cX6_mostLacking 43 = .ok (.iaload, 1) := by decide +kernel
theorem dX6_mostLacking_44 : decode cX6_mostLacking 44 = .ok (.aload_n 1, 1) := by decide +kernel
theorem dX6_mostLacking_45 : decode cX6_mostLacking 45 = .ok (.getfield 235, 3) := by decide +kernel
theorem dX6_mostLacking_48 : decode cX6_mostLacking 48 = .ok (.iload 5, 2) := by decide +kernel
theorem dX6_mostLacking_50 : decode cX6_mostLacking 50 = .ok (.iaload, 1) := by decide +kernel
theorem dX6_mostLacking_51 : decode cX6_mostLacking 51 = .ok (.iload 6, 2) := by decide +kernel
theorem dX6_mostLacking_53 : decode cX6_mostLacking 53 = .ok (.invokevirtual 156, 3) := by decide +kernel
theorem dX6_mostLacking_56 : decode cX6_mostLacking 56 = .ok (.istore 7, 2) := by decide +kernel
theorem dX6_mostLacking_58 : decode cX6_mostLacking 58 = .ok (.iload 7, 2) := by decide +kernel
theorem dX6_mostLacking_60 : decode cX6_mostLacking 60 = .ok (.ifCond .ge 7, 3) := by decide +kernel
theorem dX6_mostLacking_63 : decode cX6_mostLacking 63 = .ok (.iconst (-1), 1) := by decide +kernel
theorem dX6_mostLacking_64 : decode cX6_mostLacking 64 = .ok (.goto 15, 3) := by decide +kernel
theorem dX6_mostLacking_67 : decode cX6_mostLacking 67 = .ok (.iload 7, 2) := by decide +kernel
theorem dX6_mostLacking_69 : decode cX6_mostLacking 69 = .ok (.aload_n 0, 1) := by decide +kernel
theorem dX6_mostLacking_70 : decode cX6_mostLacking 70 = .ok (.getfield 10, 3) := by decide +kernel
theorem dX6_mostLacking_73 : decode cX6_mostLacking 73 = .ok (.getfield 61, 3) := by decide +kernel
theorem dX6_mostLacking_76 : decode cX6_mostLacking 76 = .ok (.invokestatic 160, 3) := by decide +kernel
theorem dX6_mostLacking_79 : decode cX6_mostLacking 79 = .ok (.istore 8, 2) := by decide +kernel
theorem dX6_mostLacking_81 : decode cX6_mostLacking 81 = .ok (.aload_n 0, 1) := by decide +kernel
theorem dX6_mostLacking_82 : decode cX6_mostLacking 82 = .ok (.getfield 10, 3) := by decide +kernel
theorem dX6_mostLacking_85 : decode cX6_mostLacking 85 = .ok (.getfield 163, 3) := by decide +kernel
theorem dX6_mostLacking_88 : decode cX6_mostLacking 88 = .ok (.iload 8, 2) := by decide +kernel
theorem dX6_mostLacking_90 : decode cX6_mostLacking 90 = .ok (.invokevirtual 111, 3) := by decide +kernel
theorem dX6_mostLacking_93 : decode cX6_mostLacking 93 = .ok (.ifCond .ne 5, 3) := by decide +kernel
theorem dX6_mostLacking_96 : decode cX6_mostLacking 96 = .ok (.iconst (-1), 1) := by decide +kernel
theorem dX6_mostLacking_97 : decode cX6_mostLacking 97 = .ok (.ireturn, 1) := by decide +kernel
theorem dX6_mostLacking_98 : decode cX6_mostLacking 98 = .ok (.aload_n 1, 1) := by decide +kernel
theorem dX6_mostLacking_99 : decode cX6_mostLacking 99 = .ok (.getfield 232, 3) := by decide +kernel
theorem dX6_mostLacking_102 : decode cX6_mostLacking 102 = .ok (.iload 5, 2) := by decide +kernel
theorem dX6_mostLacking_104 : decode cX6_mostLacking 104 = .ok (.iaload, 1) := by decide +kernel
theorem dX6_mostLacking_105 : decode cX6_mostLacking 105 = .ok (.iconst 1, 1) := by decide +kernel
theorem dX6_mostLacking_106 : decode cX6_mostLacking 106 = .ok (.if_icmp .ne 19, 3) := by decide +kernel
theorem dX6_mostLacking_109 : decode cX6_mostLacking 109 = .ok (.aload_n 1, 1) := by decide +kernel
theorem dX6_mostLacking_110 : decode cX6_mostLacking 110 = .ok (.getfield 235, 3) := by decide +kernel
theorem dX6_mostLacking_113 : decode cX6_mostLacking 113 = .ok (.iload 5, 2) := by decide +kernel
theorem dX6_mostLacking_115 : decode cX6_mostLacking 115 = .ok (.iaload, 1) := by decide +kernel
theorem dX6_mostLacking_116 : decode cX6_mostLacking 116 = .ok (.iload_n 2, 1) := by decide +kernel
theorem dX6_mostLacking_117 : decode cX6_mostLacking 117 = .ok (.if_icmp .ne 8, 3) := by decide +kernel
theorem dX6_mostLacking_120 : decode cX6_mostLacking 120 = .ok (.iload_n 3, 1) := by decide +kernel
theorem dX6_mostLacking_121 : decode cX6_mostLacking 121 = .ok (.iload 6, 2) := by decide +kernel
theorem dX6_mostLacking_123 : decode cX6_mostLacking 123 = .ok (.iadd, 1) := by decide +kernel
theorem dX6_mostLacking_124 : decode cX6_mostLacking 124 = .ok (.istore_n 3, 1) := by decide +kernel
theorem dX6_mostLacking_125 : decode cX6_mostLacking 125 = .ok (.aload_n 0, 1) := by decide +kernel
theorem dX6_mostLacking_126 : decode cX6_mostLacking 126 = .ok (.getfield 10, 3) := by decide +kernel
theorem dX6_mostLacking_129 : decode cX6_mostLacking 129 = .ok (.getfield 163, 3) := by decide +kernel
theorem dX6_mostLacking_132 : decode cX6_mostLacking 132 = .ok (.iload 8, 2) := by decide +kernel
theorem dX6_mostLacking_134 : decode cX6_mostLacking 134 = .ok (.aload_n 0, 1) := by decide +kernel
theorem dX6_mostLacking_135 : decode cX6_mostLacking 135 = .ok (.getfield 31, 3) := by decide +kernel
theorem dX6_mostLacking_138 : decode cX6_mostLacking 138 = .ok (.invokevirtual 120, 3) := by decide +kernel
theorem dX6_mostLacking_141 : decode cX6_mostLacking 141 = .ok (.iload_n 3, 1) := by decide +kernel
theorem dX6_mostLacking_142 : decode cX6_mostLacking 142 = .ok (.aload_n 0, 1) := by decide +kernel
theorem dX6_mostLacking_143 : decode cX6_mostLacking 143 = .ok (.getfield 31, 3) := by decide +kernel
theorem dX6_mostLacking_146 : decode cX6_mostLacking 146 = .ok (.iload_n 2, 1) := by decide +kernel
theorem dX6_mostLacking_147 : decode cX6_mostLacking 147 = .ok (.iaload, 1) := by decide +kernel
theorem dX6_mostLacking_148 : decode cX6_mostLacking 148 = .ok (.isub, 1) := by decide +kernel
theorem dX6_mostLacking_149 : decode cX6_mostLacking 149 = .ok (.istore_n 3, 1) := by decide +kernel
theorem dX6_mostLacking_150 : decode cX6_mostLacking 150 = .ok (.iload 4, 2) := by decide +kernel
theorem dX6_mostLacking_152 : decode cX6_mostLacking 152 = .ok (.iload_n 3, 1) := by decide +kernel
theorem dX6_mostLacking_153 : decode cX6_mostLacking 153 = .ok (.ineg, 1) := by decide +kernel
theorem dX6_mostLacking_154 : decode cX6_mostLacking 154 = .ok (.invokestatic 238, 3) := by decide +kernel
theorem dX6_mostLacking_157 : decode cX6_mostLacking 157 = .ok (.istore 4, 2) := by decide +kernel
theorem dX6_mostLacking_159 : decode cX6_mostLacking 159 = .ok (.iinc 5 1, 3) := by decide +kernel
theorem dX6_mostLacking_162 : decode cX6_mostLacking 162 = .ok (.goto (-154), 3) := by decide +kernel
theorem dX6_mostLacking_165 : decode cX6_mostLacking 165 = .ok (.iload 4, 2) := by decide +kernel
theorem dX6_mostLacking_167 : decode cX6_mostLacking 167 = .ok (.ireturn, 1) := by decide +kernel
end
section
theorem dX7_init_0 : decode cX7_init 0 = .ok (.aload_n 0, 1) := by decide +kernel
theorem dX7_init_1 : decode cX7_init 1 = .ok (.invokespecial 1, 3) := by decide +kernel
theorem dX7_init_4 : decode cX7_init 4 = .ok (.aload_n 0, 1) := by decide +kernel
theorem dX7_init_5 : decode cX7_init 5 = .ok (.bipush 8, 2) := by decide +kernel
theorem dX7_init_7 : decode cX7_init 7 = .ok (.newarray .int, 2) := by decide +kernel
theorem dX7_init_9 : decode cX7_init 9 = .ok (.putfield 7, 3) := by decide +kernel
theorem dX7_init_12 : decode cX7_init 12 = .ok (.aload_n 0, 1) := by decide +kernel
theorem dX7_init_13 : decode cX7_init 13 = .ok (.bipush 64, 2) := by decide +kernel
theorem dX7_init_15 : decode cX7_init 15 = .ok (.newarray .int, 2) := by decide +kernel
theorem dX7_init_17 : decode cX7_init 17 = .ok (.putfield 13, 3) := by decide +kernel
theorem dX7_init_20 : decode cX7_init 20 = .ok (.aload_n 0, 1) := by decide +kernel
theorem dX7_init_21 : decode cX7_init 21 = .ok (.bipush 8, 2) := by decide +kernel
theorem dX7_init_23 : decode cX7_init 23 = .ok (.newarray .int, 2) := by decide +kernel
theorem dX7_init_25 : decode cX7_init 25 = .ok (.putfield 16, 3) := by decide +kernel
theorem dX7_init_28 : decode cX7_init 28 = .ok (.aload_n 0, 1) := by decide +kernel
theorem dX7_init_29 : decode cX7_init 29 = .ok (.iconst 4, 1) := by decide +kernel
theorem dX7_init_30 : decode cX7_init 30 = .ok (.newarray .int, 2) := by decide +kernel
theorem dX7_init_32 : decode cX7_init 32 = .ok (.putfield 19, 3) := by decide +kernel
theorem dX7_init_35 : decode cX7_init 35 = .ok (.aload_n 0, 1) := by decide +kernel
theorem dX7_init_36 : decode cX7_init 36 = .ok (.iconst 4, 1) := by decide +kernel
theorem dX7_init_37 : decode cX7_init 37 = .ok (.newarray .int, 2) := by decide +kernel
theorem dX7_init_39 : decode cX7_init 39 = .ok (.putfield 22, 3) := by decide +kernel
theorem dX7_init_42 : decode cX7_init 42 = .ok (.aload_n 0, 1) := by decide +kernel
theorem dX7_init_43 : decode cX7_init 43 = .ok (.bipush 56, 2) := by decide +kernel
theorem dX7_init_45 : decode cX7_init 45 = .ok (.newarray .int, 2) := by decide +kernel
theorem dX7_init_47 : decode cX7_init 47 = .ok (.putfield 25, 3) := by decide +kernel
theorem dX7_init_50 : decode cX7_init 50 = .ok (.aload_n 0, 1) := by decide +kernel
theorem dX7_init_51 : decode cX7_init 51 = .ok (.bipush 56, 2) := by decide +kernel
theorem dX7_init_53 : decode cX7_init 53 = .ok (.newarray .int, 2) := by decide +kernel
theorem dX7_init_55 : decode cX7_init 55 = .ok (.putfield 28, 3) := by decide +kernel
theorem dX7_init_58 : decode cX7_init 58 = .ok (.aload_n 0, 1) := by decide +kernel
theorem dX7_init_59 : decode cX7_init 59 = .ok (.iconst 4, 1) := by decide +kernel
theorem dX7_init_60 : decode cX7_init 60 = .ok (.newarray .int, 2) := by decide +kernel
theorem dX7_init_62 : decode cX7_init 62 = .ok (.putfield 31, 3) := by decide +kernel
theorem dX7_init_65 : decode cX7_init 65 = .ok (.aload_n 0, 1) := by decide +kernel
theorem dX7_init_66 : decode cX7_init 66 = .ok (.iconst 4, 1) := by decide +kernel
theorem dX7_init_67 : decode cX7_init 67 = .ok (.newarray .int, 2) := by decide +kernel
theorem dX7_init_69 : decode cX7_init 69 = .ok (.putfield 34, 3) := by decide +kernel
theorem dX7_init_72 : decode cX7_init 72 = .ok (.aload_n 0, 1) := by decide +kernel
theorem dX7_init_73 : decode cX7_init 73 = .ok (.bipush 16, 2) := by decide +kernel
theorem dX7_init_75 : decode cX7_init 75 = .ok (.newarray .int, 2) := by decide +kernel
theorem dX7_init_77 : decode cX7_init 77 = .ok (.putfield 37, 3) := by decide +kernel
theorem dX7_init_80 : decode cX7_init 80 = .ok (.aload_n 0, 1) := by decide +kernel
theorem dX7_init_81 : decode cX7_init 81 = .ok (.bipush 16, 2) := by decide +kernel
theorem dX7_init_83 : decode cX7_init 83 = .ok (.newarray .long, 2) := by decide +kernel
theorem dX7_init_85 : decode cX7_init 85 = .ok (.putfield 40, 3) := by decide +kernel
theorem dX7_init_88 : decode cX7_init 88 = .ok (.aload_n 0, 1) := by decide +kernel
theorem dX7_init_89 : decode cX7_init 89 = .ok (.bipush 16, 2) := by decide +kernel
theorem dX7_init_91 : decode cX7_init 91 = .ok (.newarray .long, 2) := by decide +kernel
theorem dX7_init_93 : decode cX7_init 93 = .ok (.putfield 44, 3) := by decide +kernel
theorem dX7_init_96 : decode cX7_init 96 = .ok (.aload_n 0, 1) := by decide +kernel
theorem dX7_init_97 : decode cX7_init 97 = .ok (.bipush 16, 2) := by decide +kernel
theorem dX7_init_99 : decode cX7_init 99 = .ok (.newarray .int, 2) := by decide +kernel
theorem dX7_init_101 : decode cX7_init 101 = .ok (.putfield 47, 3) := by decide +kernel
theorem dX7_init_104 : decode cX7_init 104 = .ok (.aload_n 0, 1) := by decide +kernel
theorem dX7_init_105 : decode cX7_init 105 = .ok (.sipush 256, 3) := by decide +kernel
theorem dX7_init_108 : decode cX7_init 108 = .ok (.newarray .int, 2) := by decide +kernel
theorem dX7_init_110 : decode cX7_init 110 = .ok (.putfield 50, 3) := by decide +kernel
theorem dX7_init_113 : decode cX7_init 113 = .ok (.aload_n 0, 1) := by decide +kernel
theorem dX7_init_114 : decode cX7_init 114 = .ok (.sipush 128, 3) := by decide +kernel
theorem dX7_init_117 : decode cX7_init 117 = .ok (.newarray .int, 2) := by decide +kernel
theorem dX7_init_119 : decode cX7_init 119 = .ok (.putfield 53, 3) := by decide +kernel
theorem dX7_init_122 : decode cX7_init 122 = .ok (.aload_n 0, 1) := by decide +kernel
theorem dX7_init_123 : decode cX7_init 123 = .ok (.bipush 32, 2) := by decide +kernel
theorem dX7_init_125 : decode cX7_init 125 = .ok (.newarray .int, 2) := by decide +kernel
theorem dX7_init_127 : decode cX7_init 127 = .ok (.putfield 56, 3) := by decide +kernel
theorem dX7_init_130 : decode cX7_init 130 = .ok (.aload_n 0, 1) := by decide +kernel
theorem dX7_init_131 : decode cX7_init 131 = .ok (.sipush 1280, 3) := by decide +kernel
theorem dX7_init_134 : decode cX7_init 134 = .ok (.newarray .int, 2) := by decide +kernel
theorem dX7_init_136 : decode cX7_init 136 = .ok (.putfield 59, 3) := by decide +kernel
theorem dX7_init_139 : decode cX7_init 139 = .ok (.aload_n 0, 1) := by decide +kernel
theorem dX7_init_140 : decode cX7_init 140 = .ok (.bipush 28, 2) := by decide +kernel
theorem dX7_init_142 : decode cX7_init 142 = .ok (.newarray .long, 2) := by decide +kernel
theorem dX7_init_144 : decode cX7_init 144 = .ok (.putfield 62, 3) := by decide +kernel
theorem dX7_init_147 : decode cX7_init 147 = .ok (.aload_n 0, 1) := by decide +kernel
theorem dX7_init_148 : decode cX7_init 148 = .ok (.bipush 8, 2) := by decide +kernel
theorem dX7_init_150 : decode cX7_init 150 = .ok (.newarray .int, 2) := by decide +kernel
theorem dX7_init_152 : decode cX7_init 152 = .ok (.putfield 65, 3) := by decide +kernel
theorem dX7_init_155 : decode cX7_init 155 = .ok (.aload_n 0, 1) := by decide +kernel
theorem dX7_init_156 : decode cX7_init 156 = .ok (.sipush 18009, 3) := by decide +kernel
theorem dX7_init_159 : decode cX7_init 159 = .ok (.newarray .int, 2) := by decide +kernel
theorem dX7_init_161 : decode cX7_init 161 = .ok (.putfield 68, 3) := by decide +kernel
theorem dX7_init_164 : decode cX7_init 164 = .ok (.aload_n 0, 1) := by decide +kernel
theorem dX7_init_165 : decode cX7_init 165 = .ok (.bipush 8, 2) := by decide +kernel
theorem dX7_init_167 : decode cX7_init 167 = .ok (.newarray .int, 2) := by decide +kernel
theorem dX7_init_169 : decode cX7_init 169 = .ok (.putfield 71, 3) := by decide +kernel
theorem dX7_init_172 : decode cX7_init 172 = .ok (.aload_n 0, 1) := by decide +kernel
theorem dX7_init_173 : decode cX7_init 173 = .ok (.bipush 8, 2) := by decide +kernel
theorem dX7_init_175 : decode cX7_init 175 = .ok (.newarray .int, 2) := by decide +kernel
theorem dX7_init_177 : decode cX7_init 177 = .ok (.putfield 74, 3) := by decide +kernel
theorem dX7_init_180 : decode cX7_init 180 = .ok (.aload_n 0, 1) := by decide +kernel
theorem dX7_init_181 : decode cX7_init 181 = .ok (.sipush 2001, 3) := by decide +kernel
theorem dX7_init_184 : decode cX7_init 184 = .ok (.newarray .int, 2) := by decide +kernel
theorem dX7_init_186 : decode cX7_init 186 = .ok (.putfield 77, 3) := by decide +kernel
theorem dX7_init_189 : decode cX7_init 189 = .ok (.aload_n 0, 1) := by decide +kernel
theorem dX7_init_190 : decode cX7_init 190 = .ok (.bipush 8, 2) := by decide +kernel
theorem dX7_init_192 : decode cX7_init 192 = .ok (.newarray .int, 2) := by decide +kernel
theorem dX7_init_194 : decode cX7_init 194 = .ok (.putfield 80, 3) := by decide +kernel
theorem dX7_init_197 : decode cX7_init 197 = .ok (.aload_n 0, 1) := by decide +kernel
theorem dX7_init_198 : decode cX7_init 198 = .ok (.bipush 8, 2) := by decide +kernel
theorem dX7_init_200 : decode cX7_init 200 = .ok (.newarray .int, 2) := by decide +kernel
theorem dX7_init_202 : decode cX7_init 202 = .ok (.putfield 83, 3) := by decide +kernel
theorem dX7_init_205 : decode cX7_init 205 = .ok (.aload_n 0, 1) := by decide +kernel
theorem dX7_init_206 : decode cX7_init 206 = .ok (.iconst 3, 1) := by decide +kernel
theorem dX7_init_207 : decode cX7_init 207 = .ok (.newarray .boolean, 2) := by decide +kernel
theorem dX7_init_209 : decode cX7_init 209 = .ok (.putfield 86, 3) := by decide +kernel
theorem dX7_init_212 : decode cX7_init 212 = .ok (.aload_n 0, 1) := by decide +kernel
theorem dX7_init_213 : decode cX7_init 213 = .ok (.getfield 16, 3) := by decide +kernel
theorem dX7_init_216 : decode cX7_init 216 = .ok (.iconst 0, 1) := by decide +kernel
theorem dX7_init_217 : decode cX7_init 217 = .ok (.iconst 1, 1) := by decide +kernel
theorem dX7_init_218 : decode cX7_init 218 = .ok (.iastore, 1) := by decide +kernel
theorem dX7_init_219 : decode cX7_init 219 = .ok (.aload_n 0, 1) := by decide +kernel
theorem dX7_init_220 : decode cX7_init 220 = .ok (.getfield 16, 3) := by decide +kernel
theorem dX7_init_223 : decode cX7_init 223 = .ok (.iconst 1, 1) := by decide +kernel
theorem dX7_init_224 : decode cX7_init 224 = .ok (.iconst 1, 1) := by decide +kernel
theorem dX7_init_225 : decode cX7_init 225 = .ok (.iastore, 1) := by decide +kernel
theorem dX7_init_226 : decode cX7_init 226 = .ok (.aload_n 0, 1) := by decide +kernel
theorem dX7_init_227 : decode cX7_init 227 = .ok (.getfield 31, 3) := by decide +kernel
theorem dX7_init_230 : decode cX7_init 230 = .ok (.iconst 0, 1) := by decide +kernel
theorem dX7_init_231 : decode cX7_init 231 = .ok (.iconst 1, 1) := by decide +kernel
theorem dX7_init_232 : decode cX7_init 232 = .ok (.iastore, 1) := by decide +kernel
theorem dX7_init_233 : decode cX7_init 233 = .ok (.return_, 1) := by decide +kernel
theorem dX7_in_0 : decode cX7_in 0 = .ok (.iload_n 0, 1) := by decide +kernel
theorem dX7_in_1 : decode cX7_in 1 = .ok (.iload_n 1, 1) := by decide +kernel
theorem dX7_in_2 : decode cX7_in 2 = .ok (.if_icmp .lt 12, 3) := by decide +kernel
theorem dX7_in_5 : decode cX7_in 5 = .ok (.iload_n 0, 1) := by decide +kernel
theorem dX7_in_6 : decode cX7_in 6 = .ok (.iload_n 2, 1) := by decide +kernel
theorem dX7_in_7 : decode cX7_in 7 = .ok (.if_icmp .gt 7, 3) := by decide +kernel
theorem dX7_in_10 : decode cX7_in 10 = .ok (.iconst 1, 1) := by decide +kernel
theorem dX7_in_11 : decode cX7_in 11 = .ok (.goto 4, 3) := by decide +kernel
theorem dX7_in_14 : decode cX7_in 14 = .ok (.iconst 0, 1) := by decide +kernel
theorem dX7_in_15 : decode cX7_in 15 = .ok (.ireturn, 1) := by decide +kernel
theorem dX7_move_0 : decode cX7_move 0 = .ok (.iconst 0, 1) := by decide +kernel
theorem dX7_move_1 : decode cX7_move 1 = .ok (.istore 4, 2) := by decide +kernel
theorem dX7_move_3 : decode cX7_move 3 = .ok (.iload 4, 2) := by decide +kernel
theorem dX7_move_5 : decode cX7_move 5 = .ok (.iload_n 1, 1) := by decide +kernel
theorem dX7_move_6 : decode cX7_move 6 = .ok (.if_icmp .ge 25, 3) := by decide +kernel
theorem dX7_move_9 : decode cX7_move 9 = .ok (.aload_n 0, 1) := by decide +kernel
theorem dX7_move_10 : decode cX7_move 10 = .ok (.iload_n 1, 1) := by decide +kernel
theorem dX7_move_11 : decode cX7_move 11 = .ok (.iload_n 3, 1) := by decide +kernel
theorem dX7_move_12 : decode cX7_move 12 = .ok (.imul, 1) := by decide +kernel
theorem dX7_move_13 : decode cX7_move 13 = .ok (.iload 4, 2) := by decide +kernel
theorem dX7_move_15 : decode cX7_move 15 = .ok (.iadd, 1) := by decide +kernel
theorem dX7_move_16 : decode cX7_move 16 = .ok (.aload_n 0, 1) := by decide +kernel
theorem dX7_move_17 : decode cX7_move 17 = .ok (.iload_n 1, 1) := by decide +kernel
theorem dX7_move_18 : decode cX7_move 18 = .ok (.iload_n 2, 1) := by decide +kernel
theorem dX7_move_19 : decode cX7_move 19 = .ok (.imul, 1) := by decide +kernel
theorem dX7_move_20 : decode cX7_move 20 = .ok (.iload 4, 2) := by decide +kernel
theorem dX7_move_22 : decode cX7_move 22 = .ok (.iadd, 1) := by decide +kernel
theorem dX7_move_23 : decode cX7_move 23 = .ok (.iaload, 1) := by decide +kernel
theorem dX7_move_24 : decode cX7_move 24 = .ok (.iastore, 1) := by decide +kernel
theorem dX7_move_25 : decode cX7_move 25 = .ok (.iinc 4 1, 3) := by decide +kernel
theorem dX7_move_28 : decode cX7_move 28 = .ok (.goto (-25), 3) := by decide +kernel
theorem dX7_move_31 : decode cX7_move 31 = .ok (.return_, 1) := by decide +kernel
theorem dX7_copy_0 : decode cX7_copy 0 = .ok (.aload_n 0, 1) := by decide +kernel
theorem dX7_copy_1 : decode cX7_copy 1 = .ok (.getfield 7, 3) := by decide +kernel
theorem dX7_copy_4 : decode cX7_copy 4 = .ok (.iconst 2, 1) := by decide +kernel
theorem dX7_copy_5 : decode cX7_copy 5 = .ok (.iload_n 1, 1) := by decide +kernel
theorem dX7_copy_6 : decode cX7_copy 6 = .ok (.iload_n 2, 1) := by decide +kernel
theorem dX7_copy_7 : decode cX7_copy 7 = .ok (.invokestatic 94, 3) := by decide +kernel
theorem dX7_copy_10 : decode cX7_copy 10 = .ok (.aload_n 0, 1) := by decide +kernel
theorem dX7_copy_11 : decode cX7_copy 11 = .ok (.getfield 13, 3) := by decide +kernel
theorem dX7_copy_14 : decode cX7_copy 14 = .ok (.bipush 16, 2) := by decide +kernel
theorem dX7_copy_16 : decode cX7_copy 16 = .ok (.iload_n 1, 1) := by decide +kernel
theorem dX7_copy_17 : decode cX7_copy 17 = .ok (.iload_n 2, 1) := by decide +kernel
theorem dX7_copy_18 : decode cX7_copy 18 = .ok (.invokestatic 94, 3) := by decide +kernel
theorem dX7_copy_21 : decode cX7_copy 21 = .ok (.aload_n 0, 1) := by decide +kernel
theorem dX7_copy_22 : decode cX7_copy 22 = .ok (.getfield 16, 3) := by decide +kernel
theorem dX7_copy_25 : decode cX7_copy 25 = .ok (.iconst 2, 1) := by decide +kernel
theorem dX7_copy_26 : decode cX7_copy 26 = .ok (.iload_n 1, 1) := by decide +kernel
theorem dX7_copy_27 : decode cX7_copy 27 = .ok (.iload_n 2, 1) := by decide +kernel
theorem dX7_copy_28 : decode cX7_copy 28 = .ok (.invokestatic 94, 3) := by decide +kernel
theorem dX7_copy_31 : decode cX7_copy 31 = .ok (.aload_n 0, 1) := by decide +kernel
theorem dX7_copy_32 : decode cX7_copy 32 = .ok (.getfield 19, 3) := by decide +kernel
theorem dX7_copy_35 : decode cX7_copy 35 = .ok (.iconst 1, 1) := by decide +kernel
theorem dX7_copy_36 : decode cX7_copy 36 = .ok (.iload_n 1, 1) := by decide +kernel
theorem dX7_copy_37 : decode cX7_copy 37 = .ok (.iload_n 2, 1) := by decide +kernel
theorem dX7_copy_38 : decode cX7_copy 38 = .ok (.invokestatic 94, 3) := by decide +kernel
theorem dX7_copy_41 : decode cX7_copy 41 = .ok (.aload_n 0, 1) := by decide +kernel
theorem dX7_copy_42 : decode cX7_copy 42 = .ok (.getfield 22, 3) := by decide +kernel
theorem dX7_copy_45 : decode cX7_copy 45 = .ok (.iconst 1, 1) := by decide +kernel
theorem dX7_copy_46 : decode cX7_copy 46 = .ok (.iload_n 1, 1) := by decide +kernel
theorem dX7_copy_47 : decode cX7_copy 47 = .ok (.iload_n 2, 1) := by decide +kernel
theorem dX7_copy_48 : decode cX7_copy 48 = .ok (.invokestatic 94, 3) := by decide +kernel
theorem dX7_copy_51 : decode cX7_copy 51 = .ok (.aload_n 0, 1) := by decide +kernel
theorem dX7_copy_52 : decode cX7_copy 52 = .ok (.getfield 25, 3) := by decide +kernel
theorem dX7_copy_55 : decode cX7_copy 55 = .ok (.bipush 14, 2) := by decide +kernel
theorem dX7_copy_57 : decode cX7_copy 57 = .ok (.iload_n 1, 1) := by decide +kernel
theorem dX7_copy_58 : decode cX7_copy 58 = .ok (.iload_n 2, 1) := by decide +kernel
theorem dX7_copy_59 : decode cX7_copy 59 = .ok (.invokestatic 94, 3) := by decide +kernel
theorem dX7_copy_62 : decode cX7_copy 62 = .ok (.aload_n 0, 1) := by decide +kernel
theorem dX7_copy_63 : decode cX7_copy 63 = .ok (.getfield 28, 3) := by decide +kernel
theorem dX7_copy_66 : decode cX7_copy 66 = .ok (.bipush 14, 2) := by decide +kernel
theorem dX7_copy_68 : decode cX7_copy 68 = .ok (.iload_n 1, 1) := by decide +kernel
theorem dX7_copy_69 : decode cX7_copy 69 = .ok (.iload_n 2, 1) := by decide +kernel
theorem dX7_copy_70 : decode cX7_copy 70 = .ok (.invokestatic 94, 3) := by decide +kernel
theorem dX7_copy_73 : decode cX7_copy 73 = .ok (.aload_n 0, 1) := by decide +kernel
theorem dX7_copy_74 : decode cX7_copy 74 = .ok (.getfield 31, 3) := by decide +kernel
theorem dX7_copy_77 : decode cX7_copy 77 = .ok (.iconst 1, 1) := by decide +kernel
theorem dX7_copy_78 : decode cX7_copy 78 = .ok (.iload_n 1, 1) := by decide +kernel
theorem dX7_copy_79 : decode cX7_copy 79 = .ok (.iload_n 2, 1) := by decide +kernel
theorem dX7_copy_80 : decode cX7_copy 80 = .ok (.invokestatic 94, 3) := by decide +kernel
theorem dX7_copy_83 : decode cX7_copy 83 = .ok (.aload_n 0, 1) := by decide +kernel
theorem dX7_copy_84 : decode cX7_copy 84 = .ok (.getfield 34, 3) := by decide +kernel
theorem dX7_copy_87 : decode cX7_copy 87 = .ok (.iconst 1, 1) := by decide +kernel
theorem dX7_copy_88 : decode cX7_copy 88 = .ok (.iload_n 1, 1) := by decide +kernel
theorem dX7_copy_89 : decode cX7_copy 89 = .ok (.iload_n 2, 1) := by decide +kernel
theorem dX7_copy_90 : decode cX7_copy 90 = .ok (.invokestatic 94, 3) := by decide +kernel
theorem dX7_copy_93 : decode cX7_copy 93 = .ok (.aload_n 0, 1) := by decide +kernel
theorem dX7_copy_94 : decode cX7_copy 94 = .ok (.getfield 37, 3) := by decide +kernel
theorem dX7_copy_97 : decode cX7_copy 97 = .ok (.iconst 4, 1) := by decide +kernel
theorem dX7_copy_98 : decode cX7_copy 98 = .ok (.iload_n 1, 1) := by decide +kernel
theorem dX7_copy_99 : decode cX7_copy 99 = .ok (.iload_n 2, 1) := by decide +kernel
theorem dX7_copy_100 : decode cX7_copy 100 = .ok (.invokestatic 94, 3) := by decide +kernel
theorem dX7_copy_103 : decode cX7_copy 103 = .ok (.aload_n 0, 1) := by decide +kernel
theorem dX7_copy_104 : decode cX7_copy 104 = .ok (.getfield 47, 3) := by decide +kernel
theorem dX7_copy_107 : decode cX7_copy 107 = .ok (.iconst 4, 1) := by decide +kernel
theorem dX7_copy_108 : decode cX7_copy 108 = .ok (.iload_n 1, 1) := by decide +kernel
theorem dX7_copy_109 : decode cX7_copy 109 = .ok (.iload_n 2, 1) := by decide +kernel
theorem dX7_copy_110 : decode cX7_copy 110 = .ok (.invokestatic 94, 3) := by decide +kernel
theorem dX7_copy_113 : decode cX7_copy 113 = .ok (.aload_n 0, 1) := by decide +kernel
theorem dX7_copy_114 : decode cX7_copy 114 = .ok (.getfield 50, 3) := by decide +kernel
theorem dX7_copy_117 : decode cX7_copy 117 = .ok (.bipush 64, 2) := by decide +kernel
theorem dX7_copy_119 : decode cX7_copy 119 = .ok (.iload_n 1, 1) := by decide +kernel
theorem dX7_copy_120 : decode cX7_copy 120 = .ok (.iload_n 2, 1) := by decide +kernel
theorem dX7_copy_121 : decode cX7_copy 121 = .ok (.invokestatic 94, 3) := by decide +kernel
theorem dX7_copy_124 : decode cX7_copy 124 = .ok (.aload_n 0, 1) := by decide +kernel
theorem dX7_copy_125 : decode cX7_copy 125 = .ok (.getfield 53, 3) := by decide +kernel
theorem dX7_copy_128 : decode cX7_copy 128 = .ok (.bipush 32, 2) := by decide +kernel
theorem dX7_copy_130 : decode cX7_copy 130 = .ok (.iload_n 1, 1) := by decide +kernel
theorem dX7_copy_131 : decode cX7_copy 131 = .ok (.iload_n 2, 1) := by decide +kernel
theorem dX7_copy_132 : decode cX7_copy 132 = .ok (.invokestatic 94, 3) := by decide +kernel
theorem dX7_copy_135 : decode cX7_copy 135 = .ok (.aload_n 0, 1) := by decide +kernel
theorem dX7_copy_136 : decode cX7_copy 136 = .ok (.getfield 56, 3) := by decide +kernel
theorem dX7_copy_139 : decode cX7_copy 139 = .ok (.bipush 8, 2) := by decide +kernel
theorem dX7_copy_141 : decode cX7_copy 141 = .ok (.iload_n 1, 1) := by decide +kernel
theorem dX7_copy_142 : decode cX7_copy 142 = .ok (.iload_n 2, 1) := by decide +kernel
theorem dX7_copy_143 : decode cX7_copy 143 = .ok (.invokestatic 94, 3) := by decide +kernel
theorem dX7_copy_146 : decode cX7_copy 146 = .ok (.aload_n 0, 1) := by decide +kernel
theorem dX7_copy_147 : decode cX7_copy 147 = .ok (.getfield 59, 3) := by decide +kernel
theorem dX7_copy_150 : decode cX7_copy 150 = .ok (.sipush 320, 3) := by decide +kernel
theorem dX7_copy_153 : decode cX7_copy 153 = .ok (.iload_n 1, 1) := by decide +kernel
theorem dX7_copy_154 : decode cX7_copy 154 = .ok (.iload_n 2, 1) := by decide +kernel
theorem dX7_copy_155 : decode cX7_copy 155 = .ok (.invokestatic 94, 3) := by decide +kernel
theorem dX7_copy_158 : decode cX7_copy 158 = .ok (.iconst 0, 1) := by decide +kernel
theorem dX7_copy_159 : decode cX7_copy 159 = .ok (.istore_n 3, 1) := by decide +kernel
theorem dX7_copy_160 : decode cX7_copy 160 = .ok (.iload_n 3, 1) := by decide +kernel
theorem dX7_copy_161 : decode cX7_copy 161 = .ok (.iconst 4, 1) := by decide +kernel
theorem dX7_copy_162 : decode cX7_copy 162 = .ok (.if_icmp .ge 49, 3) := by decide +kernel
theorem dX7_copy_165 : decode cX7_copy 165 = .ok (.aload_n 0, 1) := by decide +kernel
theorem dX7_copy_166 : decode cX7_copy 166 = .ok (.getfield 40, 3) := by decide +kernel
theorem dX7_copy_169 : decode cX7_copy 169 = .ok (.iconst 4, 1) := by decide +kernel
theorem dX7_copy_170 : decode cX7_copy 170 = .ok (.iload_n 2, 1) := by decide +kernel
theorem dX7_copy_171 : decode cX7_copy 171 = .ok (.imul, 1) := by decide +kernel
theorem dX7_copy_172 : decode cX7_copy 172 = .ok (.iload_n 3, 1) := by decide +kernel
theorem dX7_copy_173 : decode cX7_copy 173 = .ok (.iadd, 1) := by decide +kernel
theorem dX7_copy_174 : decode cX7_copy 174 = .ok (.aload_n 0, 1) := by decide +kernel
theorem dX7_copy_175 : decode cX7_copy 175 = .ok (.getfield 40, 3) := by decide +kernel
theorem dX7_copy_178 : decode cX7_copy 178 = .ok (.iconst 4, 1) := by decide +kernel
theorem dX7_copy_179 : decode cX7_copy 179 = .ok (.iload_n 1, 1) := by decide +kernel
theorem dX7_copy_180 : decode cX7_copy 180 = .ok (.imul, 1) := by decide +kernel
theorem dX7_copy_181 : decode cX7_copy 181 = .ok (.iload_n 3, 1) := by decide +kernel
theorem dX7_copy_182 : decode cX7_copy 182 = .ok (.iadd, 1) := by decide +kernel
theorem dX7_copy_183 : decode cX7_copy 183 = .ok (.laload, 1) := by decide +kernel
theorem dX7_copy_184 : decode cX7_copy 184 = .ok (.lastore, 1) := by decide +kernel
theorem dX7_copy_185 : decode cX7_copy 185 = .ok (.aload_n 0, 1) := by decide +kernel
theorem dX7_copy_186 : decode cX7_copy 186 = .ok (.getfield 44, 3) := by decide +kernel
theorem dX7_copy_189 : decode cX7_copy 189 = .ok (.iconst 4, 1) := by decide +kernel
theorem dX7_copy_190 : decode cX7_copy 190 = .ok (.iload_n 2, 1) := by decide +kernel
theorem dX7_copy_191 : decode cX7_copy 191 = .ok (.imul, 1) := by decide +kernel
theorem dX7_copy_192 : decode cX7_copy 192 = .ok (.iload_n 3, 1) := by decide +kernel
theorem dX7_copy_193 : decode cX7_copy 193 = .ok (.iadd, 1) := by decide +kernel
theorem dX7_copy_194 : decode cX7_copy 194 = .ok (.aload_n 0, 1) := by decide +kernel
theorem dX7_copy_195 : decode cX7_copy 195 = .ok (.getfield 44, 3) := by decide +kernel
theorem dX7_copy_198 : decode cX7_copy 198 = .ok (.iconst 4, 1) := by decide +kernel
theorem dX7_copy_199 : decode cX7_copy 199 = .ok (.iload_n 1, 1) := by decide +kernel
theorem dX7_copy_200 : decode cX7_copy 200 = .ok (.imul, 1) := by decide +kernel
theorem dX7_copy_201 : decode cX7_copy 201 = .ok (.iload_n 3, 1) := by decide +kernel
theorem dX7_copy_202 : decode cX7_copy 202 = .ok (.iadd, 1) := by decide +kernel
theorem dX7_copy_203 : decode cX7_copy 203 = .ok (.laload, 1) := by decide +kernel
theorem dX7_copy_204 : decode cX7_copy 204 = .ok (.lastore, 1) := by decide +kernel
theorem dX7_copy_205 : decode cX7_copy 205 = .ok (.iinc 3 1, 3) := by decide +kernel
theorem dX7_copy_208 : decode cX7_copy 208 = .ok (.goto (-48), 3) := by decide +kernel
theorem dX7_copy_211 : decode cX7_copy 211 = .ok (.return_, 1) := by decide +kernel
theorem dX7_isCoin_0 : decode cX7_isCoin 0 = .ok (.iload_n 1, 1) := by decide +kernel
theorem dX7_isCoin_1 : decode cX7_isCoin 1 = .ok (.iconst 0, 1) := by decide +kernel
theorem dX7_isCoin_2 : decode cX7_isCoin 2 = .ok (.iconst 1, 1) := by decide +kernel
theorem dX7_isCoin_3 : decode cX7_isCoin 3 = .ok (.invokestatic 98, 3) := by decide +kernel
theorem dX7_isCoin_6 : decode cX7_isCoin 6 = .ok (.ifCond .eq 23, 3) := by decide +kernel
theorem dX7_isCoin_9 : decode cX7_isCoin 9 = .ok (.iload_n 2, 1) := by decide +kernel
theorem dX7_isCoin_10 : decode cX7_isCoin 10 = .ok (.iconst 0, 1) := by decide +kernel
theorem dX7_isCoin_11 : decode cX7_isCoin 11 = .ok (.aload_n 0, 1) := by decide +kernel
theorem dX7_isCoin_12 : decode cX7_isCoin 12 = .ok (.getfield 7, 3) := by decide +kernel
theorem dX7_isCoin_15 : decode cX7_isCoin 15 = .ok (.iload_n 1, 1) := by decide +kernel
theorem dX7_isCoin_16 : decode cX7_isCoin 16 = .ok (.iaload, 1) := by decide +kernel
theorem dX7_isCoin_17 : decode cX7_isCoin 17 = .ok (.iconst 1, 1) := by decide +kernel
theorem dX7_isCoin_18 : decode cX7_isCoin 18 = .ok (.isub, 1) := by decide +kernel
theorem dX7_isCoin_19 : decode cX7_isCoin 19 = .ok (.invokestatic 98, 3) := by decide +kernel
theorem dX7_isCoin_22 : decode cX7_isCoin 22 = .ok (.ifCond .eq 7, 3) := by decide +kernel
theorem dX7_isCoin_25 : decode cX7_isCoin 25 = .ok (.iconst 1, 1) := by decide +kernel
theorem dX7_isCoin_26 : decode cX7_isCoin 26 = .ok (.goto 4, 3) := by decide +kernel
theorem dX7_isCoin_29 : decode cX7_isCoin 29 = .ok (.iconst 0, 1) := by decide +kernel
theorem dX7_isCoin_30 : decode cX7_isCoin 30 = .ok (.ireturn, 1) := by decide +kernel
theorem dX7_coin_0 : decode cX7_coin 0 = .ok (.aload_n 0, 1) := by decide +kernel
theorem dX7_coin_1 : decode cX7_coin 1 = .ok (.iconst 0, 1) := by decide +kernel
theorem dX7_coin_2 : decode cX7_coin 2 = .ok (.putfield 90, 3) := by decide +kernel
theorem dX7_coin_5 : decode cX7_coin 5 = .ok (.iload_n 1, 1) := by decide +kernel
theorem dX7_coin_6 : decode cX7_coin 6 = .ok (.iconst 0, 1) := by decide +kernel
theorem dX7_coin_7 : decode cX7_coin 7 = .ok (.iconst 1, 1) := by decide +kernel
theorem dX7_coin_8 : decode cX7_coin 8 = .ok (.invokestatic 98, 3) := by decide +kernel
theorem dX7_coin_11 : decode cX7_coin 11 = .ok (.ifCond .eq 25, 3) := by decide +kernel
theorem dX7_coin_14 : decode cX7_coin 14 = .ok (.aload_n 0, 1) := by decide +kernel
theorem dX7_coin_15 : decode cX7_coin 15 = .ok (.getfield 7, 3) := by decide +kernel
theorem dX7_coin_18 : decode cX7_coin 18 = .ok (.iload_n 1, 1) := by decide +kernel
theorem dX7_coin_19 : decode cX7_coin 19 = .ok (.iaload, 1) := by decide +kernel
theorem dX7_coin_20 : decode cX7_coin 20 = .ok (.bipush 8, 2) := by decide +kernel
theorem dX7_coin_22 : decode cX7_coin 22 = .ok (.if_icmp .eq 14, 3) := by decide +kernel
theorem dX7_coin_25 : decode cX7_coin 25 = .ok (.iload_n 2, 1) := by decide +kernel
theorem dX7_coin_26 : decode cX7_coin 26 = .ok (.iconst 1, 1) := by decide +kernel
theorem dX7_coin_27 : decode cX7_coin 27 = .ok (.sipush 1000, 3) := by decide +kernel
theorem dX7_coin_30 : decode cX7_coin 30 = .ok (.invokestatic 98, 3) := by decide +kernel
theorem dX7_coin_33 : decode cX7_coin 33 = .ok (.ifCond .ne 5, 3) := by decide +kernel
theorem dX7_coin_36 : decode cX7_coin 36 = .ok (.iconst (-1), 1) := by decide +kernel
theorem dX7_coin_37 : decode cX7_coin 37 = .ok (.ireturn, 1) := by decide +kernel
theorem dX7_coin_38 : decode cX7_coin 38 = .ok (.iconst 0, 1) := by decide +kernel
theorem dX7_coin_39 : decode cX7_coin 39 = .ok (.istore_n 3, 1) := by decide +kernel
theorem dX7_coin_40 : decode cX7_coin 40 = .ok (.iload_n 3, 1) := by decide +kernel
theorem dX7_coin_41 : decode cX7_coin 41 = .ok (.aload_n 0, 1) := by decide +kernel
theorem dX7_coin_42 : decode cX7_coin 42 = .ok (.getfield 7, 3) := by decide +kernel
theorem dX7_coin_45 : decode cX7_coin 45 = .ok (.iload_n 1, 1) := by decide +kernel
theorem dX7_coin_46 : decode cX7_coin 46 = .ok (.iaload, 1) := by decide +kernel
theorem dX7_coin_47 : decode cX7_coin 47 = .ok (.if_icmp .ge 26, 3) := by decide +kernel
theorem dX7_coin_50 : decode cX7_coin 50 = .ok (.aload_n 0, 1) := by decide +kernel
theorem dX7_coin_51 : decode cX7_coin 51 = .ok (.getfield 13, 3) := by decide +kernel
theorem dX7_coin_54 : decode cX7_coin 54 = .ok (.bipush 8, 2) := by decide +kernel
theorem dX7_coin_56 : decode cX7_coin 56 = .ok (.iload_n 1, 1) := by decide +kernel
theorem dX7_coin_57 : decode cX7_coin 57 = .ok (.imul, 1) := by decide +kernel
theorem dX7_coin_58 : decode cX7_coin 58 = .ok (.iload_n 3, 1) := by decide +kernel
theorem dX7_coin_59 : decode cX7_coin 59 = .ok (.iadd, 1) := by decide +kernel
theorem dX7_coin_60 : decode cX7_coin 60 = .ok (.iaload, 1) := by decide +kernel
theorem dX7_coin_61 : decode cX7_coin 61 = .ok (.iload_n 2, 1) := by decide +kernel
theorem dX7_coin_62 : decode cX7_coin 62 = .ok (.if_icmp .ne 5, 3) := by decide +kernel
theorem dX7_coin_65 : decode cX7_coin 65 = .ok (.iconst (-1), 1) := by decide +kernel
theorem dX7_coin_66 : decode cX7_coin 66 = .ok (.ireturn, 1) := by decide +kernel
theorem dX7_coin_67 : decode cX7_coin 67 = .ok (.iinc 3 1, 3) := by decide +kernel
theorem dX7_coin_70 : decode cX7_coin 70 = .ok (.goto (-30), 3) := by decide +kernel
theorem dX7_coin_73 : decode cX7_coin 73 = .ok (.aload_n 0, 1) := by decide +kernel
theorem dX7_coin_74 : decode cX7_coin 74 = .ok (.getfield 13, 3) := by decide +kernel
theorem dX7_coin_77 : decode cX7_coin 77 = .ok (.bipush 8, 2) := by decide +kernel
theorem dX7_coin_79 : decode cX7_coin 79 = .ok (.iload_n 1, 1) := by decide +kernel
theorem dX7_coin_80 : decode cX7_coin 80 = .ok (.imul, 1) := by decide +kernel
theorem dX7_coin_81 : decode cX7_coin 81 = .ok (.aload_n 0, 1) := by decide +kernel
theorem dX7_coin_82 : decode cX7_coin 82 = .ok (.getfield 7, 3) := by decide +kernel
theorem dX7_coin_85 : decode cX7_coin 85 = .ok (.iload_n 1, 1) := by decide +kernel
theorem dX7_coin_86 : decode cX7_coin 86 = .ok (.iaload, 1) := by decide +kernel
theorem dX7_coin_87 : decode cX7_coin 87 = .ok (.iadd, 1) := by decide +kernel
theorem dX7_coin_88 : decode cX7_coin 88 = .ok (.iload_n 2, 1) := by decide +kernel
theorem dX7_coin_89 : decode cX7_coin 89 = .ok (.iastore, 1) := by decide +kernel
theorem dX7_coin_90 : decode cX7_coin 90 = .ok (.aload_n 0, 1) := by decide +kernel
theorem dX7_coin_91 : decode cX7_coin 91 = .ok (.getfield 7, 3) := by decide +kernel
theorem dX7_coin_94 : decode cX7_coin 94 = .ok (.iload_n 1, 1) := by decide +kernel
theorem dX7_coin_95 : decode cX7_coin 95 = .ok (.dup2, 1) := by decide +kernel
theorem dX7_coin_96 : decode cX7_coin 96 = .ok (.iaload, 1) := by decide +kernel
theorem dX7_coin_97 : decode cX7_coin 97 = .ok (.iconst 1, 1) := by decide +kernel
theorem dX7_coin_98 : decode cX7_coin 98 = .ok (.iadd, 1) := by decide +kernel
theorem dX7_coin_99 : decode cX7_coin 99 = .ok (.iastore, 1) := by decide +kernel
theorem dX7_coin_100 : decode cX7_coin 100 = .ok (.aload_n 0, 1) := by decide +kernel
theorem dX7_coin_101 : decode cX7_coin 101 = .ok (.getfield 7, 3) := by decide +kernel
theorem dX7_coin_104 : decode cX7_coin 104 = .ok (.iload_n 1, 1) := by decide +kernel
theorem dX7_coin_105 : decode cX7_coin 105 = .ok (.iaload, 1) := by decide +kernel
theorem dX7_coin_106 : decode cX7_coin 106 = .ok (.iconst 1, 1) := by decide +kernel
theorem dX7_coin_107 : decode cX7_coin 107 = .ok (.isub, 1) := by decide +kernel
theorem dX7_coin_108 : decode cX7_coin 108 = .ok (.ireturn, 1) := by decide +kernel
theorem dX7_rate_0 : decode cX7_rate 0 = .ok (.aload_n 0, 1) := by decide +kernel
theorem dX7_rate_1 : decode cX7_rate 1 = .ok (.iconst 0, 1) := by decide +kernel
theorem dX7_rate_2 : decode cX7_rate 2 = .ok (.putfield 90, 3) := by decide +kernel
theorem dX7_rate_5 : decode cX7_rate 5 = .ok (.iload_n 1, 1) := by decide +kernel
theorem dX7_rate_6 : decode cX7_rate 6 = .ok (.iconst 1, 1) := by decide +kernel
theorem dX7_rate_7 : decode cX7_rate 7 = .ok (.bipush 100, 2) := by decide +kernel
theorem dX7_rate_9 : decode cX7_rate 9 = .ok (.invokestatic 98, 3) := by decide +kernel
theorem dX7_rate_12 : decode cX7_rate 12 = .ok (.ifCond .eq 22, 3) := by decide +kernel
theorem dX7_rate_15 : decode cX7_rate 15 = .ok (.iload_n 2, 1) := by decide +kernel
theorem dX7_rate_16 : decode cX7_rate 16 = .ok (.iconst 1, 1) := by decide +kernel
theorem dX7_rate_17 : decode cX7_rate 17 = .ok (.bipush 100, 2) := by decide +kernel
theorem dX7_rate_19 : decode cX7_rate 19 = .ok (.invokestatic 98, 3) := by decide +kernel
theorem dX7_rate_22 : decode cX7_rate 22 = .ok (.ifCond .eq 12, 3) := by decide +kernel
theorem dX7_rate_25 : decode cX7_rate 25 = .ok (.aload_n 0, 1) := by decide +kernel
theorem dX7_rate_26 : decode cX7_rate 26 = .ok (.getfield 19, 3) := by decide +kernel
theorem dX7_rate_29 : decode cX7_rate 29 = .ok (.iconst 0, 1) := by decide +kernel
theorem dX7_rate_30 : decode cX7_rate 30 = .ok (.iaload, 1) := by decide +kernel
theorem dX7_rate_31 : decode cX7_rate 31 = .ok (.ifCond .le 5, 3) := by decide +kernel
theorem dX7_rate_34 : decode cX7_rate 34 = .ok (.iconst 0, 1) := by decide +kernel
theorem dX7_rate_35 : decode cX7_rate 35 = .ok (.ireturn, 1) := by decide +kernel
theorem dX7_rate_36 : decode cX7_rate 36 = .ok (.aload_n 0, 1) := by decide +kernel
theorem dX7_rate_37 : decode cX7_rate 37 = .ok (.getfield 16, 3) := by decide +kernel
theorem dX7_rate_40 : decode cX7_rate 40 = .ok (.iconst 0, 1) := by decide +kernel
theorem dX7_rate_41 : decode cX7_rate 41 = .ok (.iload_n 1, 1) := by decide +kernel
theorem dX7_rate_42 : decode cX7_rate 42 = .ok (.iastore, 1) := by decide +kernel
theorem dX7_rate_43 : decode cX7_rate 43 = .ok (.aload_n 0, 1) := by decide +kernel
theorem dX7_rate_44 : decode cX7_rate 44 = .ok (.getfield 16, 3) := by decide +kernel
theorem dX7_rate_47 : decode cX7_rate 47 = .ok (.iconst 1, 1) := by decide +kernel
theorem dX7_rate_48 : decode cX7_rate 48 = .ok (.iload_n 2, 1) := by decide +kernel
theorem dX7_rate_49 : decode cX7_rate 49 = .ok (.iastore, 1) := by decide +kernel
theorem dX7_rate_50 : decode cX7_rate 50 = .ok (.iconst 1, 1) := by decide +kernel
theorem dX7_rate_51 : decode cX7_rate 51 = .ok (.ireturn, 1) := by decide +kernel
theorem dX7_isGood_0 : decode cX7_isGood 0 = .ok (.iload_n 1, 1) := by decide +kernel
theorem dX7_isGood_1 : decode cX7_isGood 1 = .ok (.iconst 0, 1) := by decide +kernel
theorem dX7_isGood_2 : decode cX7_isGood 2 = .ok (.aload_n 0, 1) := by decide +kernel
theorem dX7_isGood_3 : decode cX7_isGood 3 = .ok (.getfield 22, 3) := by decide +kernel
theorem dX7_isGood_6 : decode cX7_isGood 6 = .ok (.iconst 0, 1) := by decide +kernel
theorem dX7_isGood_7 : decode cX7_isGood 7 = .ok (.iaload, 1) := by decide +kernel
theorem dX7_isGood_8 : decode cX7_isGood 8 = .ok (.iconst 1, 1) := by decide +kernel
theorem dX7_isGood_9 : decode cX7_isGood 9 = .ok (.isub, 1) := by decide +kernel
theorem dX7_isGood_10 : decode cX7_isGood 10 = .ok (.invokestatic 98, 3) := by decide +kernel
theorem dX7_isGood_13 : decode cX7_isGood 13 = .ok (.ireturn, 1) := by decide +kernel
theorem dX7_good_0 : decode cX7_good 0 = .ok (.aload_n 0, 1) := by decide +kernel
theorem dX7_good_1 : decode cX7_good 1 = .ok (.iconst 0, 1) := by decide +kernel
theorem dX7_good_2 : decode cX7_good 2 = .ok (.putfield 90, 3) := by decide +kernel
theorem dX7_good_5 : decode cX7_good 5 = .ok (.aload_n 0, 1) := by decide +kernel
theorem dX7_good_6 : decode cX7_good 6 = .ok (.getfield 22, 3) := by decide +kernel
theorem dX7_good_9 : decode cX7_good 9 = .ok (.iconst 0, 1) := by decide +kernel
theorem dX7_good_10 : decode cX7_good 10 = .ok (.iaload, 1) := by decide +kernel
theorem dX7_good_11 : decode cX7_good 11 = .ok (.bipush 14, 2) := by decide +kernel
theorem dX7_good_13 : decode cX7_good 13 = .ok (.if_icmp .eq 24, 3) := by decide +kernel
theorem dX7_good_16 : decode cX7_good 16 = .ok (.iload_n 1, 1) := by decide +kernel
theorem dX7_good_17 : decode cX7_good 17 = .ok (.iconst 1, 1) := by decide +kernel
theorem dX7_good_18 : decode cX7_good 18 = .ok (.sipush 10000, 3) := by decide +kernel
theorem dX7_good_21 : decode cX7_good 21 = .ok (.invokestatic 98, 3) := by decide +kernel
theorem dX7_good_24 : decode cX7_good 24 = .ok (.ifCond .eq 13, 3) := by decide +kernel
theorem dX7_good_27 : decode cX7_good 27 = .ok (.iload_n 2, 1) := by decide +kernel
theorem dX7_good_28 : decode cX7_good 28 = .ok (.iconst 0, 1) := by decide +kernel
theorem dX7_good_29 : decode cX7_good 29 = .ok (.bipush 100, 2) := by decide +kernel
theorem dX7_good_31 : decode cX7_good 31 = .ok (.invokestatic 98, 3) := by decide +kernel
theorem dX7_good_34 : decode cX7_good 34 = .ok (.ifCond .ne 5, 3) := by decide +kernel
theorem dX7_good_37 : decode cX7_good 37 = .ok (.iconst (-1), 1) := by decide +kernel
theorem dX7_good_38 : decode cX7_good 38 = .ok (.ireturn, 1) := by decide +kernel
theorem dX7_good_39 : decode cX7_good 39 = .ok (.aload_n 0, 1) := by decide +kernel
theorem dX7_good_40 : decode cX7_good 40 = .ok (.getfield 25, 3) := by decide +kernel
theorem dX7_good_43 : decode cX7_good 43 = .ok (.aload_n 0, 1) := by decide +kernel
theorem dX7_good_44 : decode cX7_good 44 = .ok (.getfield 22, 3) := by decide +kernel
theorem dX7_good_47 : decode cX7_good 47 = .ok (.iconst 0, 1) := by decide +kernel
theorem dX7_good_48 : decode cX7_good 48 = .ok (.iaload, 1) := by decide +kernel
theorem dX7_good_49 : decode cX7_good 49 = .ok (.iload_n 1, 1) := by decide +kernel
theorem dX7_good_50 : decode cX7_good 50 = .ok (.iastore, 1) := by decide +kernel
theorem dX7_good_51 : decode cX7_good 51 = .ok (.aload_n 0, 1) := by decide +kernel
theorem dX7_good_52 : decode cX7_good 52 = .ok (.getfield 28, 3) := by decide +kernel
theorem dX7_good_55 : decode cX7_good 55 = .ok (.aload_n 0, 1) := by decide +kernel
theorem dX7_good_56 : decode cX7_good 56 = .ok (.getfield 22, 3) := by decide +kernel
theorem dX7_good_59 : decode cX7_good 59 = .ok (.iconst 0, 1) := by decide +kernel
theorem dX7_good_60 : decode cX7_good 60 = .ok (.iaload, 1) := by decide +kernel
theorem dX7_good_61 : decode cX7_good 61 = .ok (.iload_n 2, 1) := by decide +kernel
theorem dX7_good_62 : decode cX7_good 62 = .ok (.iastore, 1) := by decide +kernel
theorem dX7_good_63 : decode cX7_good 63 = .ok (.aload_n 0, 1) := by decide +kernel
theorem dX7_good_64 : decode cX7_good 64 = .ok (.getfield 22, 3) := by decide +kernel
theorem dX7_good_67 : decode cX7_good 67 = .ok (.iconst 0, 1) := by decide +kernel
theorem dX7_good_68 : decode cX7_good 68 = .ok (.dup2, 1) := by decide +kernel
theorem dX7_good_69 : decode cX7_good 69 = .ok (.iaload, 1) := by decide +kernel
theorem dX7_good_70 : decode cX7_good 70 = .ok (.iconst 1, 1) := by decide +kernel
theorem dX7_good_71 : decode cX7_good 71 = .ok (.iadd, 1) := by decide +kernel
theorem dX7_good_72 : decode cX7_good 72 = .ok (.iastore, 1) := by decide +kernel
theorem dX7_good_73 : decode cX7_good 73 = .ok (.aload_n 0, 1) := by decide +kernel
theorem dX7_good_74 : decode cX7_good 74 = .ok (.getfield 22, 3) := by decide +kernel
theorem dX7_good_77 : decode cX7_good 77 = .ok (.iconst 0, 1) := by decide +kernel
theorem dX7_good_78 : decode cX7_good 78 = .ok (.iaload, 1) := by decide +kernel
theorem dX7_good_79 : decode cX7_good 79 = .ok (.iconst 1, 1) := by decide +kernel
theorem dX7_good_80 : decode cX7_good 80 = .ok (.isub, 1) := by decide +kernel
theorem dX7_good_81 : decode cX7_good 81 = .ok (.ireturn, 1) := by decide +kernel
theorem dX7_sold_0 : decode cX7_sold 0 = .ok (.aload_n 0, 1) := by decide +kernel
theorem dX7_sold_1 : decode cX7_sold 1 = .ok (.iconst 0, 1) := by decide +kernel
theorem dX7_sold_2 : decode cX7_sold 2 = .ok (.putfield 90, 3) := by decide +kernel
theorem dX7_sold_5 : decode cX7_sold 5 = .ok (.aload_n 0, 1) := by decide +kernel
theorem dX7_sold_6 : decode cX7_sold 6 = .ok (.iload_n 1, 1) := by decide +kernel
theorem dX7_sold_7 : decode cX7_sold 7 = .ok (.invokevirtual 102, 3) := by decide +kernel
theorem dX7_sold_10 : decode cX7_sold 10 = .ok (.ifCond .eq 13, 3) := by decide +kernel
theorem dX7_sold_13 : decode cX7_sold 13 = .ok (.iload_n 2, 1) := by decide +kernel
theorem dX7_sold_14 : decode cX7_sold 14 = .ok (.iconst 0, 1) := by decide +kernel
theorem dX7_sold_15 : decode cX7_sold 15 = .ok (.bipush 100, 2) := by decide +kernel
theorem dX7_sold_17 : decode cX7_sold 17 = .ok (.invokestatic 98, 3) := by decide +kernel
theorem dX7_sold_20 : decode cX7_sold 20 = .ok (.ifCond .ne 5, 3) := by decide +kernel
theorem dX7_sold_23 : decode cX7_sold 23 = .ok (.iconst 0, 1) := by decide +kernel
theorem dX7_sold_24 : decode cX7_sold 24 = .ok (.ireturn, 1) := by decide +kernel
theorem dX7_sold_25 : decode cX7_sold 25 = .ok (.aload_n 0, 1) := by decide +kernel
theorem dX7_sold_26 : decode cX7_sold 26 = .ok (.getfield 28, 3) := by decide +kernel
theorem dX7_sold_29 : decode cX7_sold 29 = .ok (.iload_n 1, 1) := by decide +kernel
theorem dX7_sold_30 : decode cX7_sold 30 = .ok (.iload_n 2, 1) := by decide +kernel
theorem dX7_sold_31 : decode cX7_sold 31 = .ok (.iastore, 1) := by decide +kernel
theorem dX7_sold_32 : decode cX7_sold 32 = .ok (.iconst 1, 1) := by decide +kernel
theorem dX7_sold_33 : decode cX7_sold 33 = .ok (.ireturn, 1) := by decide +kernel
theorem dX7_step_0 : decode cX7_step 0 = .ok (.aload_n 0, 1) := by decide +kernel
theorem dX7_step_1 : decode cX7_step 1 = .ok (.iconst 0, 1) := by decide +kernel
theorem dX7_step_2 : decode cX7_step 2 = .ok (.putfield 90, 3) := by decide +kernel
theorem dX7_step_5 : decode cX7_step 5 = .ok (.iload_n 1, 1) := by decide +kernel
theorem dX7_step_6 : decode cX7_step 6 = .ok (.iconst 1, 1) := by decide +kernel
theorem dX7_step_7 : decode cX7_step 7 = .ok (.bipush 100, 2) := by decide +kernel
theorem dX7_step_9 : decode cX7_step 9 = .ok (.invokestatic 98, 3) := by decide +kernel
theorem dX7_step_12 : decode cX7_step 12 = .ok (.ifCond .ne 5, 3) := by decide +kernel
theorem dX7_step_15 : decode cX7_step 15 = .ok (.iconst 0, 1) := by decide +kernel
theorem dX7_step_16 : decode cX7_step 16 = .ok (.ireturn, 1) := by decide +kernel
theorem dX7_step_17 : decode cX7_step 17 = .ok (.aload_n 0, 1) := by decide +kernel
theorem dX7_step_18 : decode cX7_step 18 = .ok (.getfield 31, 3) := by decide +kernel
theorem dX7_step_21 : decode cX7_step 21 = .ok (.iconst 0, 1) := by decide +kernel
theorem dX7_step_22 : decode cX7_step 22 = .ok (.iload_n 1, 1) := by decide +kernel
theorem dX7_step_23 : decode cX7_step 23 = .ok (.iastore, 1) := by decide +kernel
theorem dX7_step_24 : decode cX7_step 24 = .ok (.iconst 1, 1) := by decide +kernel
theorem dX7_step_25 : decode cX7_step 25 = .ok (.ireturn, 1) := by decide +kernel
theorem dX7_priceOf_0 : decode cX7_priceOf 0 = .ok (.aload_n 0, 1) := by decide +kernel
theorem dX7_priceOf_1 : decode cX7_priceOf 1 = .ok (.getfield 25, 3) := by decide +kernel
theorem dX7_priceOf_4 : decode cX7_priceOf 4 = .ok (.iload_n 1, 1) := by decide +kernel
theorem dX7_priceOf_5 : decode cX7_priceOf 5 = .ok (.iaload, 1) := by decide +kernel
theorem dX7_priceOf_6 : decode cX7_priceOf 6 = .ok (.aload_n 0, 1) := by decide +kernel
theorem dX7_priceOf_7 : decode cX7_priceOf 7 = .ok (.getfield 16, 3) := by decide +kernel
theorem dX7_priceOf_10 : decode cX7_priceOf 10 = .ok (.iconst 0, 1) := by decide +kernel
theorem dX7_priceOf_11 : decode cX7_priceOf 11 = .ok (.iaload, 1) := by decide +kernel
theorem dX7_priceOf_12 : decode cX7_priceOf 12 = .ok (.imul, 1) := by decide +kernel
theorem dX7_priceOf_13 : decode cX7_priceOf 13 = .ok (.istore_n 3, 1) := by decide +kernel
theorem dX7_priceOf_14 : decode cX7_priceOf 14 = .ok (.aload_n 0, 1) := by decide +kernel
theorem dX7_priceOf_15 : decode cX7_priceOf 15 = .ok (.getfield 16, 3) := by decide +kernel
theorem dX7_priceOf_18 : decode cX7_priceOf 18 = .ok (.iconst 1, 1) := by decide +kernel
theorem dX7_priceOf_19 : decode cX7_priceOf 19 = .ok (.iaload, 1) := by decide +kernel
theorem dX7_priceOf_20 : decode cX7_priceOf 20 = .ok (.aload_n 0, 1) := by decide +kernel
theorem dX7_priceOf_21 : decode cX7_priceOf 21 = .ok (.getfield 31, 3) := by decide +kernel
theorem dX7_priceOf_24 : decode cX7_priceOf 24 = .ok (.iconst 0, 1) := by decide +kernel
theorem dX7_priceOf_25 : decode cX7_priceOf 25 = .ok (.iaload, 1) := by decide +kernel
theorem dX7_priceOf_26 : decode cX7_priceOf 26 = .ok (.imul, 1) := by decide +kernel
theorem dX7_priceOf_27 : decode cX7_priceOf 27 = .ok (.istore 4, 2) := by decide +kernel
theorem dX7_priceOf_29 : decode cX7_priceOf 29 = .ok (.iload_n 3, 1) := by decide +kernel
theorem dX7_priceOf_30 : decode cX7_priceOf 30 = .ok (.iload 4, 2) := by decide +kernel
theorem dX7_priceOf_32 : decode cX7_priceOf 32 = .ok (.idiv, 1) := by decide +kernel
theorem dX7_priceOf_33 : decode cX7_priceOf 33 = .ok (.istore 5, 2) := by decide +kernel
theorem dX7_priceOf_35 : decode cX7_priceOf 35 = .ok (.iload_n 3, 1) := by decide +kernel
theorem dX7_priceOf_36 : decode cX7_priceOf 36 = .ok (.iload 4, 2) := by decide +kernel
theorem dX7_priceOf_38 : decode cX7_priceOf 38 = .ok (.irem, 1) := by decide +kernel
theorem dX7_priceOf_39 : decode cX7_priceOf 39 = .ok (.istore 6, 2) := by decide +kernel
theorem dX7_priceOf_41 : decode cX7_priceOf 41 = .ok (.iload 6, 2) := by decide +kernel
theorem dX7_priceOf_43 : decode cX7_priceOf 43 = .ok (.ifCond .le 10, 3) := by decide +kernel
theorem dX7_priceOf_46 : decode cX7_priceOf 46 = .ok (.iload 5, 2) := by decide +kernel
theorem dX7_priceOf_48 : decode cX7_priceOf 48 = .ok (.iconst 1, 1) := by decide +kernel
theorem dX7_priceOf_49 : decode cX7_priceOf 49 = .ok (.iadd, 1) := by decide +kernel
theorem dX7_priceOf_50 : decode cX7_priceOf 50 = .ok (.goto 5, 3) := by decide +kernel
theorem dX7_priceOf_53 : decode cX7_priceOf 53 = .ok (.iload 5, 2) := by decide +kernel
theorem dX7_priceOf_55 : decode cX7_priceOf 55 = .ok (.istore 7, 2) := by decide +kernel
theorem dX7_priceOf_57 : decode cX7_priceOf 57 = .ok (.iload_n 2, 1) := by decide +kernel
theorem dX7_priceOf_58 : decode cX7_priceOf 58 = .ok (.ifCond .eq 8, 3) := by decide +kernel
theorem dX7_priceOf_61 : decode cX7_priceOf 61 = .ok (.iload_n 2, 1) := by decide +kernel
theorem dX7_priceOf_62 : decode cX7_priceOf 62 = .ok (.iconst 1, 1) := by decide +kernel
theorem dX7_priceOf_63 : decode cX7_priceOf 63 = .ok (.if_icmp .ne 22, 3) := by decide +kernel
theorem dX7_priceOf_66 : decode cX7_priceOf 66 = .ok (.aload_n 0, 1) := by decide +kernel
theorem dX7_priceOf_67 : decode cX7_priceOf 67 = .ok (.getfield 31, 3) := by decide +kernel
theorem dX7_priceOf_70 : decode cX7_priceOf 70 = .ok (.iconst 0, 1) := by decide +kernel
theorem dX7_priceOf_71 : decode cX7_priceOf 71 = .ok (.iaload, 1) := by decide +kernel
theorem dX7_priceOf_72 : decode cX7_priceOf 72 = .ok (.iload_n 2, 1) := by decide +kernel
theorem dX7_priceOf_73 : decode cX7_priceOf 73 = .ok (.ifCond .ne 8, 3) := by decide +kernel
theorem dX7_priceOf_76 : decode cX7_priceOf 76 = .ok (.iload 5, 2) := by decide +kernel
theorem dX7_priceOf_78 : decode cX7_priceOf 78 = .ok (.goto 5, 3) := by decide +kernel
theorem dX7_priceOf_81 : decode cX7_priceOf 81 = .ok (.iload 7, 2) := by decide +kernel
theorem dX7_priceOf_83 : decode cX7_priceOf 83 = .ok (.imul, 1) := by decide +kernel
theorem dX7_priceOf_84 : decode cX7_priceOf 84 = .ok (.ireturn, 1) := by decide +kernel
theorem dX7_priceOf_85 : decode cX7_priceOf 85 = .ok (.iconst 2, 1) := by decide +kernel
theorem dX7_priceOf_86 : decode cX7_priceOf 86 = .ok (.iload 6, 2) := by decide +kernel
theorem dX7_priceOf_88 : decode cX7_priceOf 88 = .ok (.imul, 1) := by decide +kernel
theorem dX7_priceOf_89 : decode cX7_priceOf 89 = .ok (.iload 4, 2) := by decide +kernel
theorem dX7_priceOf_91 : decode cX7_priceOf 91 = .ok (.if_icmp .gt 25, 3) := by decide +kernel
theorem dX7_priceOf_94 : decode cX7_priceOf 94 = .ok (.iconst 2, 1) := by decide +kernel
theorem dX7_priceOf_95 : decode cX7_priceOf 95 = .ok (.iload 6, 2) := by decide +kernel
theorem dX7_priceOf_97 : decode cX7_priceOf 97 = .ok (.imul, 1) := by decide +kernel
theorem dX7_priceOf_98 : decode cX7_priceOf 98 = .ok (.iload 4, 2) := by decide +kernel
theorem dX7_priceOf_100 : decode cX7_priceOf 100 = .ok (.if_icmp .ne 20, 3) := by decide +kernel
theorem dX7_priceOf_103 : decode cX7_priceOf 103 = .ok (.iload_n 2, 1) := by decide +kernel
theorem dX7_priceOf_104 : decode cX7_priceOf 104 = .ok (.iconst 2, 1) := by decide +kernel
theorem dX7_priceOf_105 : decode cX7_priceOf 105 = .ok (.if_icmp .eq 11, 3) := by decide +kernel
theorem dX7_priceOf_108 : decode cX7_priceOf 108 = .ok (.iload 5, 2) := by decide +kernel
theorem dX7_priceOf_110 : decode cX7_priceOf 110 = .ok (.iconst 2, 1) := by decide +kernel
theorem dX7_priceOf_111 : decode cX7_priceOf 111 = .ok (.irem, 1) := by decide +kernel
theorem dX7_priceOf_112 : decode cX7_priceOf 112 = .ok (.iconst 1, 1) := by decide +kernel
theorem dX7_priceOf_113 : decode cX7_priceOf 113 = .ok (.if_icmp .ne 7, 3) := by decide +kernel
theorem dX7_priceOf_116 : decode cX7_priceOf 116 = .ok (.iconst 1, 1) := by decide +kernel
theorem dX7_priceOf_117 : decode cX7_priceOf 117 = .ok (.goto 4, 3) := by decide +kernel
theorem dX7_priceOf_120 : decode cX7_priceOf 120 = .ok (.iconst 0, 1) := by decide +kernel
theorem dX7_priceOf_121 : decode cX7_priceOf 121 = .ok (.istore 8, 2) := by decide +kernel
theorem dX7_priceOf_123 : decode cX7_priceOf 123 = .ok (.aload_n 0, 1) := by decide +kernel
theorem dX7_priceOf_124 : decode cX7_priceOf 124 = .ok (.getfield 31, 3) := by decide +kernel
theorem dX7_priceOf_127 : decode cX7_priceOf 127 = .ok (.iconst 0, 1) := by decide +kernel
theorem dX7_priceOf_128 : decode cX7_priceOf 128 = .ok (.iaload, 1) := by decide +kernel
theorem dX7_priceOf_129 : decode cX7_priceOf 129 = .ok (.iload 8, 2) := by decide +kernel
theorem dX7_priceOf_131 : decode cX7_priceOf 131 = .ok (.ifCond .eq 8, 3) := by decide +kernel
theorem dX7_priceOf_134 : decode cX7_priceOf 134 = .ok (.iload 7, 2) := by decide +kernel
theorem dX7_priceOf_136 : decode cX7_priceOf 136 = .ok (.goto 5, 3) := by decide +kernel
theorem dX7_priceOf_139 : decode cX7_priceOf 139 = .ok (.iload 5, 2) := by decide +kernel
theorem dX7_priceOf_141 : decode cX7_priceOf 141 = .ok (.imul, 1) := by decide +kernel
theorem dX7_priceOf_142 : decode cX7_priceOf 142 = .ok (.ireturn, 1) := by decide +kernel
theorem dX7_price_0 : decode cX7_price 0 = .ok (.aload_n 0, 1) := by decide +kernel
theorem dX7_price_1 : decode cX7_price 1 = .ok (.iconst 0, 1) := by decide +kernel
theorem dX7_price_2 : decode cX7_price 2 = .ok (.putfield 90, 3) := by decide +kernel
theorem dX7_price_5 : decode cX7_price 5 = .ok (.aload_n 0, 1) := by decide +kernel
theorem dX7_price_6 : decode cX7_price 6 = .ok (.iload_n 1, 1) := by decide +kernel
theorem dX7_price_7 : decode cX7_price 7 = .ok (.invokevirtual 102, 3) := by decide +kernel
theorem dX7_price_10 : decode cX7_price 10 = .ok (.ifCond .eq 21, 3) := by decide +kernel
theorem dX7_price_13 : decode cX7_price 13 = .ok (.iload_n 2, 1) := by decide +kernel
theorem dX7_price_14 : decode cX7_price 14 = .ok (.iconst 0, 1) := by decide +kernel
theorem dX7_price_15 : decode cX7_price 15 = .ok (.iconst 3, 1) := by decide +kernel
theorem dX7_price_16 : decode cX7_price 16 = .ok (.invokestatic 98, 3) := by decide +kernel
theorem dX7_price_19 : decode cX7_price 19 = .ok (.ifCond .eq 12, 3) := by decide +kernel
theorem dX7_price_22 : decode cX7_price 22 = .ok (.aload_n 0, 1) := by decide +kernel
theorem dX7_price_23 : decode cX7_price 23 = .ok (.iload_n 1, 1) := by decide +kernel
theorem dX7_price_24 : decode cX7_price 24 = .ok (.iload_n 2, 1) := by decide +kernel
theorem dX7_price_25 : decode cX7_price 25 = .ok (.invokevirtual 106, 3) := by decide +kernel
theorem dX7_price_28 : decode cX7_price 28 = .ok (.goto 4, 3) := by decide +kernel
theorem dX7_price_31 : decode cX7_price 31 = .ok (.iconst (-1), 1) := by decide +kernel
theorem dX7_price_32 : decode cX7_price 32 = .ok (.ireturn, 1) := by decide +kernel
theorem dX7_gainOf_0 : decode cX7_gainOf 0 = .ok (.aload_n 0, 1) := by decide +kernel
theorem dX7_gainOf_1 : decode cX7_gainOf 1 = .ok (.iload_n 1, 1) := by decide +kernel
theorem dX7_gainOf_2 : decode cX7_gainOf 2 = .ok (.iload_n 2, 1) := by decide +kernel
theorem dX7_gainOf_3 : decode cX7_gainOf 3 = .ok (.invokevirtual 106, 3) := by decide +kernel
theorem dX7_gainOf_6 : decode cX7_gainOf 6 = .ok (.i2l, 1) := by decide +kernel
theorem dX7_gainOf_7 : decode cX7_gainOf 7 = .ok (.aload_n 0, 1) := by decide +kernel
theorem dX7_gainOf_8 : decode cX7_gainOf 8 = .ok (.getfield 16, 3) := by decide +kernel
theorem dX7_gainOf_11 : decode cX7_gainOf 11 = .ok (.iconst 1, 1) := by decide +kernel
theorem dX7_gainOf_12 : decode cX7_gainOf 12 = .ok (.iaload, 1) := by decide +kernel
theorem dX7_gainOf_13 : decode cX7_gainOf 13 = .ok (.i2l, 1) := by decide +kernel
theorem dX7_gainOf_14 : decode cX7_gainOf 14 = .ok (.lmul, 1) := by decide +kernel
theorem dX7_gainOf_15 : decode cX7_gainOf 15 = .ok (.aload_n 0, 1) := by decide +kernel
theorem dX7_gainOf_16 : decode cX7_gainOf 16 = .ok (.getfield 25, 3) := by decide +kernel
theorem dX7_gainOf_19 : decode cX7_gainOf 19 = .ok (.iload_n 1, 1) := by decide +kernel
theorem dX7_gainOf_20 : decode cX7_gainOf 20 = .ok (.iaload, 1) := by decide +kernel
theorem dX7_gainOf_21 : decode cX7_gainOf 21 = .ok (.i2l, 1) := by decide +kernel
theorem dX7_gainOf_22 : decode cX7_gainOf 22 = .ok (.aload_n 0, 1) := by decide +kernel
theorem dX7_gainOf_23 : decode cX7_gainOf 23 = .ok (.getfield 16, 3) := by decide +kernel
theorem dX7_gainOf_26 : decode cX7_gainOf 26 = .ok (.iconst 0, 1) := by decide +kernel
theorem dX7_gainOf_27 : decode cX7_gainOf 27 = .ok (.iaload, 1) := by decide +kernel
theorem dX7_gainOf_28 : decode cX7_gainOf 28 = .ok (.i2l, 1) := by decide +kernel
theorem dX7_gainOf_29 : decode cX7_gainOf 29 = .ok (.lmul, 1) := by decide +kernel
theorem dX7_gainOf_30 : decode cX7_gainOf 30 = .ok (.lsub, 1) := by decide +kernel
theorem dX7_gainOf_31 : decode cX7_gainOf 31 = .ok (.aload_n 0, 1) := by decide +kernel
theorem dX7_gainOf_32 : decode cX7_gainOf 32 = .ok (.getfield 28, 3) := by decide +kernel
theorem dX7_gainOf_35 : decode cX7_gainOf 35 = .ok (.iload_n 1, 1) := by decide +kernel
theorem dX7_gainOf_36 : decode cX7_gainOf 36 = .ok (.iaload, 1) := by decide +kernel
theorem dX7_gainOf_37 : decode cX7_gainOf 37 = .ok (.i2l, 1) := by decide +kernel
theorem dX7_gainOf_38 : decode cX7_gainOf 38 = .ok (.lmul, 1) := by decide +kernel
theorem dX7_gainOf_39 : decode cX7_gainOf 39 = .ok (.lreturn, 1) := by decide +kernel
theorem dX7_gain_0 : decode cX7_gain 0 = .ok (.aload_n 0, 1) := by decide +kernel
theorem dX7_gain_1 : decode cX7_gain 1 = .ok (.iconst 0, 1) := by decide +kernel
theorem dX7_gain_2 : decode cX7_gain 2 = .ok (.putfield 90, 3) := by decide +kernel
theorem dX7_gain_5 : decode cX7_gain 5 = .ok (.lconst 0, 1) := by decide +kernel
theorem dX7_gain_6 : decode cX7_gain 6 = .ok (.lstore_n 2, 1) := by decide +kernel
theorem dX7_gain_7 : decode cX7_gain 7 = .ok (.iconst 0, 1) := by decide +kernel
theorem dX7_gain_8 : decode cX7_gain 8 = .ok (.istore 4, 2) := by decide +kernel
theorem dX7_gain_10 : decode cX7_gain 10 = .ok (.iload 4, 2) := by decide +kernel
theorem dX7_gain_12 : decode cX7_gain 12 = .ok (.aload_n 0, 1) := by decide +kernel
theorem dX7_gain_13 : decode cX7_gain 13 = .ok (.getfield 22, 3) := by decide +kernel
theorem dX7_gain_16 : decode cX7_gain 16 = .ok (.iconst 0, 1) := by decide +kernel
theorem dX7_gain_17 : decode cX7_gain 17 = .ok (.iaload, 1) := by decide +kernel
theorem dX7_gain_18 : decode cX7_gain 18 = .ok (.if_icmp .ge 28, 3) := by decide +kernel
theorem dX7_gain_21 : decode cX7_gain 21 = .ok (.iload_n 1, 1) := by decide +kernel
theorem dX7_gain_22 : decode cX7_gain 22 = .ok (.iconst 0, 1) := by decide +kernel
theorem dX7_gain_23 : decode cX7_gain 23 = .ok (.iconst 3, 1) := by decide +kernel
theorem dX7_gain_24 : decode cX7_gain 24 = .ok (.invokestatic 98, 3) := by decide +kernel
theorem dX7_gain_27 : decode cX7_gain 27 = .ok (.ifCond .eq 19, 3) := by decide +kernel
theorem dX7_gain_30 : decode cX7_gain 30 = .ok (.lload_n 2, 1) := by decide +kernel
theorem dX7_gain_31 : decode cX7_gain 31 = .ok (.aload_n 0, 1) := by decide +kernel
theorem dX7_gain_32 : decode cX7_gain 32 = .ok (.iload 4, 2) := by decide +kernel
theorem dX7_gain_34 : decode cX7_gain 34 = .ok (.iload_n 1, 1) := by decide +kernel
theorem dX7_gain_35 : decode cX7_gain 35 = .ok (.invokevirtual 110, 3) := by decide +kernel
theorem dX7_gain_38 : decode cX7_gain 38 = .ok (.ladd, 1) := by decide +kernel
theorem dX7_gain_39 : decode cX7_gain 39 = .ok (.lstore_n 2, 1) := by decide +kernel
theorem dX7_gain_40 : decode cX7_gain 40 = .ok (.iinc 4 1, 3) := by decide +kernel
theorem dX7_gain_43 : decode cX7_gain 43 = .ok (.goto (-33), 3) := by decide +kernel
theorem dX7_gain_46 : decode cX7_gain 46 = .ok (.lload_n 2, 1) := by decide +kernel
theorem dX7_gain_47 : decode cX7_gain 47 = .ok (.lreturn, 1) := by decide +kernel
theorem dX7_fairest_0 : decode cX7_fairest 0 = .ok (.aload_n 0, 1) := by decide +kernel
theorem dX7_fairest_1 : decode cX7_fairest 1 = .ok (.iconst 0, 1) := by decide +kernel
theorem dX7_fairest_2 : decode cX7_fairest 2 = .ok (.putfield 90, 3) := by decide +kernel
theorem dX7_fairest_5 : decode cX7_fairest 5 = .ok (.iconst 0, 1) := by decide +kernel
theorem dX7_fairest_6 : decode cX7_fairest 6 = .ok (.istore_n 1, 1) := by decide +kernel
theorem dX7_fairest_7 : decode cX7_fairest 7 = .ok (.iload_n 1, 1) := by decide +kernel
theorem dX7_fairest_8 : decode cX7_fairest 8 = .ok (.aload_n 0, 1) := by decide +kernel
theorem dX7_fairest_9 : decode cX7_fairest 9 = .ok (.getfield 22, 3) := by decide +kernel
theorem dX7_fairest_12 : decode cX7_fairest 12 = .ok (.iconst 0, 1) := by decide +kernel
theorem dX7_fairest_13 : decode cX7_fairest 13 = .ok (.iaload, 1) := by decide +kernel
theorem dX7_fairest_14 : decode cX7_fairest 14 = .ok (.if_icmp .ge 39, 3) := by decide +kernel
theorem dX7_fairest_17 : decode cX7_fairest 17 = .ok (.aload_n 0, 1) := by decide +kernel
theorem dX7_fairest_18 : decode cX7_fairest 18 = .ok (.getfield 62, 3) := by decide +kernel
theorem dX7_fairest_21 : decode cX7_fairest 21 = .ok (.iconst 2, 1) := by decide +kernel
theorem dX7_fairest_22 : decode cX7_fairest 22 = .ok (.iload_n 1, 1) := by decide +kernel
theorem dX7_fairest_23 : decode cX7_fairest 23 = .ok (.imul, 1) := by decide +kernel
theorem dX7_fairest_24 : decode cX7_fairest 24 = .ok (.aload_n 0, 1) := by decide +kernel
theorem dX7_fairest_25 : decode cX7_fairest 25 = .ok (.iload_n 1, 1) := by decide +kernel
theorem dX7_fairest_26 : decode cX7_fairest 26 = .ok (.iconst 0, 1) := by decide +kernel
theorem dX7_fairest_27 : decode cX7_fairest 27 = .ok (.invokevirtual 110, 3) := by decide +kernel
theorem dX7_fairest_30 : decode cX7_fairest 30 = .ok (.lastore, 1) := by decide +kernel
theorem dX7_fairest_31 : decode cX7_fairest 31 = .ok (.aload_n 0, 1) := by decide +kernel
theorem dX7_fairest_32 : decode cX7_fairest 32 = .ok (.getfield 62, 3) := by decide +kernel
theorem dX7_fairest_35 : decode cX7_fairest 35 = .ok (.iconst 2, 1) := by decide +kernel
theorem dX7_fairest_36 : decode cX7_fairest 36 = .ok (.iload_n 1, 1) := by decide +kernel
theorem dX7_fairest_37 : decode cX7_fairest 37 = .ok (.imul, 1) := by decide +kernel
theorem dX7_fairest_38 : decode cX7_fairest 38 = .ok (.iconst 1, 1) := by decide +kernel
theorem dX7_fairest_39 : decode cX7_fairest 39 = .ok (.iadd, 1) := by decide +kernel
theorem dX7_fairest_40 : decode cX7_fairest 40 = .ok (.aload_n 0, 1) := by decide +kernel
theorem dX7_fairest_41 : decode cX7_fairest 41 = .ok (.iload_n 1, 1) := by decide +kernel
theorem dX7_fairest_42 : decode cX7_fairest 42 = .ok (.iconst 1, 1) := by decide +kernel
theorem dX7_fairest_43 : decode cX7_fairest 43 = .ok (.invokevirtual 110, 3) := by decide +kernel
theorem dX7_fairest_46 : decode cX7_fairest 46 = .ok (.lastore, 1) := by decide +kernel
theorem dX7_fairest_47 : decode cX7_fairest 47 = .ok (.iinc 1 1, 3) := by decide +kernel
theorem dX7_fairest_50 : decode cX7_fairest 50 = .ok (.goto (-43), 3) := by decide +kernel
theorem dX7_fairest_53 : decode cX7_fairest 53 = .ok (.iconst 0, 1) := by decide +kernel
theorem dX7_fairest_54 : decode cX7_fairest 54 = .ok (.istore_n 1, 1) := by decide +kernel
theorem dX7_fairest_55 : decode cX7_fairest 55 = .ok (.ldc2_w 114, 3) := by decide +kernel
theorem dX7_fairest_58 : decode cX7_fairest 58 = .ok (.lstore_n 2, 1) := by decide +kernel
theorem dX7_fairest_59 : decode cX7_fairest 59 = .ok (.iconst 0, 1) := by decide +kernel
theorem dX7_fairest_60 : decode cX7_fairest 60 = .ok (.istore 4, 2) := by decide +kernel
theorem dX7_fairest_62 : decode cX7_fairest 62 = .ok (.iload 4, 2) := by decide +kernel
theorem dX7_fairest_64 : decode cX7_fairest 64 = .ok (.iconst 1, 1) := by decide +kernel
theorem dX7_fairest_65 : decode cX7_fairest 65 = .ok (.aload_n 0, 1) := by decide +kernel
theorem dX7_fairest_66 : decode cX7_fairest 66 = .ok (.getfield 22, 3) := by decide +kernel
theorem dX7_fairest_69 : decode cX7_fairest 69 = .ok (.iconst 0, 1) := by decide +kernel
theorem dX7_fairest_70 : decode cX7_fairest 70 = .ok (.iaload, 1) := by decide +kernel
theorem dX7_fairest_71 : decode cX7_fairest 71 = .ok (.ishl, 1) := by decide +kernel
theorem dX7_fairest_72 : decode cX7_fairest 72 = .ok (.if_icmp .ge 90, 3) := by decide +kernel
theorem dX7_fairest_75 : decode cX7_fairest 75 = .ok (.lconst 0, 1) := by decide +kernel
theorem dX7_fairest_76 : decode cX7_fairest 76 = .ok (.lstore 5, 2) := by decide +kernel
theorem dX7_fairest_78 : decode cX7_fairest 78 = .ok (.iconst 0, 1) := by decide +kernel
theorem dX7_fairest_79 : decode cX7_fairest 79 = .ok (.istore 7, 2) := by decide +kernel
theorem dX7_fairest_81 : decode cX7_fairest 81 = .ok (.iload 7, 2) := by decide +kernel
theorem dX7_fairest_83 : decode cX7_fairest 83 = .ok (.aload_n 0, 1) := by decide +kernel
theorem dX7_fairest_84 : decode cX7_fairest 84 = .ok (.getfield 22, 3) := by decide +kernel
theorem dX7_fairest_87 : decode cX7_fairest 87 = .ok (.iconst 0, 1) := by decide +kernel
theorem dX7_fairest_88 : decode cX7_fairest 88 = .ok (.iaload, 1) := by decide +kernel
theorem dX7_fairest_89 : decode cX7_fairest 89 = .ok (.if_icmp .ge 31, 3) := by decide +kernel
theorem dX7_fairest_92 : decode cX7_fairest 92 = .ok (.lload 5, 2) := by decide +kernel
theorem dX7_fairest_94 : decode cX7_fairest 94 = .ok (.aload_n 0, 1) := by decide +kernel
theorem dX7_fairest_95 : decode cX7_fairest 95 = .ok (.getfield 62, 3) := by decide +kernel
theorem dX7_fairest_98 : decode cX7_fairest 98 = .ok (.iconst 2, 1) := by decide +kernel
theorem dX7_fairest_99 : decode cX7_fairest 99 = .ok (.iload 7, 2) := by decide +kernel
theorem dX7_fairest_101 : decode cX7_fairest 101 = .ok (.imul, 1) := by decide +kernel
theorem dX7_fairest_102 : decode cX7_fairest 102 = .ok (.iload 4, 2) := by decide +kernel
theorem dX7_fairest_104 : decode cX7_fairest 104 = .ok (.iload 7, 2) := by decide +kernel
theorem dX7_fairest_106 : decode cX7_fairest 106 = .ok (.ishr, 1) := by decide +kernel
theorem dX7_fairest_107 : decode cX7_fairest 107 = .ok (.iconst 1, 1) := by decide +kernel
theorem dX7_fairest_108 : decode cX7_fairest 108 = .ok (.iand, 1) := by decide +kernel
theorem dX7_fairest_109 : decode cX7_fairest 109 = .ok (.iadd, 1) := by decide +kernel
theorem dX7_fairest_110 : decode cX7_fairest 110 = .ok (.laload, 1) := by decide +kernel
theorem dX7_fairest_111 : decode cX7_fairest 111 = .ok (.ladd, 1) := by decide +kernel
theorem dX7_fairest_112 : decode cX7_fairest 112 = .ok (.lstore 5, 2) := by decide +kernel
theorem dX7_fairest_114 : decode cX7_fairest 114 = .ok (.iinc 7 1, 3) := by decide +kernel
theorem dX7_fairest_117 : decode cX7_fairest 117 = .ok (.goto (-36), 3) := by decide +kernel
theorem dX7_fairest_120 : decode cX7_fairest 120 = .ok (.lload 5, 2) := by decide +kernel
theorem dX7_fairest_122 : decode cX7_fairest 122 = .ok (.lconst 0, 1) := by decide +kernel
theorem dX7_fairest_123 : decode cX7_fairest 123 = .ok (.lcmp, 1) := by decide +kernel
theorem dX7_fairest_124 : decode cX7_fairest 124 = .ok (.ifCond .ge 9, 3) := by decide +kernel
theorem dX7_fairest_127 : decode cX7_fairest 127 = .ok (.lload 5, 2) := by decide +kernel
theorem dX7_fairest_129 : decode cX7_fairest 129 = .ok (.lneg, 1) := by decide +kernel
theorem dX7_fairest_130 : decode cX7_fairest 130 = .ok (.goto 5, 3) := by decide +kernel
theorem dX7_fairest_133 : decode cX7_fairest 133 = .ok (.lload 5, 2) := by decide +kernel
theorem dX7_fairest_135 : decode cX7_fairest 135 = .ok (.lstore 5, 2) := by decide +kernel
theorem dX7_fairest_137 : decode cX7_fairest 137 = .ok (.lload_n 2, 1) := by decide +kernel
theorem dX7_fairest_138 : decode cX7_fairest 138 = .ok (.lconst 0, 1) := by decide +kernel
theorem dX7_fairest_139 : decode cX7_fairest 139 = .ok (.lcmp, 1) := by decide +kernel
theorem dX7_fairest_140 : decode cX7_fairest 140 = .ok (.ifCond .lt 10, 3) := by decide +kernel
theorem dX7_fairest_143 : decode cX7_fairest 143 = .ok (.lload 5, 2) := by decide +kernel
theorem dX7_fairest_145 : decode cX7_fairest 145 = .ok (.lload_n 2, 1) := by decide +kernel
theorem dX7_fairest_146 : decode cX7_fairest 146 = .ok (.lcmp, 1) := by decide +kernel
theorem dX7_fairest_147 : decode cX7_fairest 147 = .ok (.ifCond .ge 9, 3) := by decide +kernel
theorem dX7_fairest_150 : decode cX7_fairest 150 = .ok (.lload 5, 2) := by decide +kernel
theorem dX7_fairest_152 : decode cX7_fairest 152 = .ok (.lstore_n 2, 1) := by decide +kernel
theorem dX7_fairest_153 : decode cX7_fairest 153 = .ok (.iload 4, 2) := by decide +kernel
theorem dX7_fairest_155 : decode cX7_fairest 155 = .ok (.istore_n 1, 1) := by decide +kernel
theorem dX7_fairest_156 : decode cX7_fairest 156 = .ok (.iinc 4 1, 3) := by decide +kernel
theorem dX7_fairest_159 : decode cX7_fairest 159 = .ok (.goto (-97), 3) := by decide +kernel
theorem dX7_fairest_162 : decode cX7_fairest 162 = .ok (.iload_n 1, 1) := by decide +kernel
theorem dX7_fairest_163 : decode cX7_fairest 163 = .ok (.ireturn, 1) := by decide +kernel
theorem dX7_gains_0 : decode cX7_gains 0 = .ok (.aload_n 0, 1) := by decide +kernel
theorem dX7_gains_1 : decode cX7_gains 1 = .ok (.iconst 0, 1) := by decide +kernel
theorem dX7_gains_2 : decode cX7_gains 2 = .ok (.putfield 90, 3) := by decide +kernel
theorem dX7_gains_5 : decode cX7_gains 5 = .ok (.lconst 0, 1) := by decide +kernel
theorem dX7_gains_6 : decode cX7_gains 6 = .ok (.lstore_n 2, 1) := by decide +kernel
theorem dX7_gains_7 : decode cX7_gains 7 = .ok (.iconst 0, 1) := by decide +kernel
theorem dX7_gains_8 : decode cX7_gains 8 = .ok (.istore 4, 2) := by decide +kernel
theorem dX7_gains_10 : decode cX7_gains 10 = .ok (.iload 4, 2) := by decide +kernel
theorem dX7_gains_12 : decode cX7_gains 12 = .ok (.aload_n 0, 1) := by decide +kernel
theorem dX7_gains_13 : decode cX7_gains 13 = .ok (.getfield 22, 3) := by decide +kernel
theorem dX7_gains_16 : decode cX7_gains 16 = .ok (.iconst 0, 1) := by decide +kernel
theorem dX7_gains_17 : decode cX7_gains 17 = .ok (.iaload, 1) := by decide +kernel
theorem dX7_gains_18 : decode cX7_gains 18 = .ok (.if_icmp .ge 24, 3) := by decide +kernel
theorem dX7_gains_21 : decode cX7_gains 21 = .ok (.lload_n 2, 1) := by decide +kernel
theorem dX7_gains_22 : decode cX7_gains 22 = .ok (.aload_n 0, 1) := by decide +kernel
theorem dX7_gains_23 : decode cX7_gains 23 = .ok (.iload 4, 2) := by decide +kernel
theorem dX7_gains_25 : decode cX7_gains 25 = .ok (.iload_n 1, 1) := by decide +kernel
theorem dX7_gains_26 : decode cX7_gains 26 = .ok (.iload 4, 2) := by decide +kernel
theorem dX7_gains_28 : decode cX7_gains 28 = .ok (.ishr, 1) := by decide +kernel
theorem dX7_gains_29 : decode cX7_gains 29 = .ok (.iconst 1, 1) := by decide +kernel
theorem dX7_gains_30 : decode cX7_gains 30 = .ok (.iand, 1) := by decide +kernel
theorem dX7_gains_31 : decode cX7_gains 31 = .ok (.invokevirtual 110, 3) := by decide +kernel
theorem dX7_gains_34 : decode cX7_gains 34 = .ok (.ladd, 1) := by decide +kernel
theorem dX7_gains_35 : decode cX7_gains 35 = .ok (.lstore_n 2, 1) := by decide +kernel
theorem dX7_gains_36 : decode cX7_gains 36 = .ok (.iinc 4 1, 3) := by decide +kernel
theorem dX7_gains_39 : decode cX7_gains 39 = .ok (.goto (-29), 3) := by decide +kernel
theorem dX7_gains_42 : decode cX7_gains 42 = .ok (.lload_n 2, 1) := by decide +kernel
theorem dX7_gains_43 : decode cX7_gains 43 = .ok (.lreturn, 1) := by decide +kernel
theorem dX7_sortCoins_0 : decode cX7_sortCoins 0 = .ok (.iconst 0, 1) := by decide +kernel
theorem dX7_sortCoins_1 : decode cX7_sortCoins 1 = .ok (.istore_n 2, 1) := by decide +kernel
theorem dX7_sortCoins_2 : decode cX7_sortCoins 2 = .ok (.iload_n 2, 1) := by decide +kernel
theorem dX7_sortCoins_3 : decode cX7_sortCoins 3 = .ok (.aload_n 0, 1) := by decide +kernel
theorem dX7_sortCoins_4 : decode cX7_sortCoins 4 = .ok (.getfield 7, 3) := by decide +kernel
theorem dX7_sortCoins_7 : decode cX7_sortCoins 7 = .ok (.iload_n 1, 1) := by decide +kernel
theorem dX7_sortCoins_8 : decode cX7_sortCoins 8 = .ok (.iaload, 1) := by decide +kernel
theorem dX7_sortCoins_9 : decode cX7_sortCoins 9 = .ok (.if_icmp .ge 74, 3) := by decide +kernel
theorem dX7_sortCoins_12 : decode cX7_sortCoins 12 = .ok (.iload_n 2, 1) := by decide +kernel
theorem dX7_sortCoins_13 : decode cX7_sortCoins 13 = .ok (.istore_n 3, 1) := by decide +kernel
theorem dX7_sortCoins_14 : decode cX7_sortCoins 14 = .ok (.iload_n 3, 1) := by decide +kernel
theorem dX7_sortCoins_15 : decode cX7_sortCoins 15 = .ok (.ifCond .le 55, 3) := by decide +kernel
theorem dX7_sortCoins_18 : decode cX7_sortCoins 18 = .ok (.aload_n 0, 1) := by decide +kernel
theorem dX7_sortCoins_19 : decode cX7_sortCoins 19 = .ok (.getfield 13, 3) := by decide +kernel
theorem dX7_sortCoins_22 : decode cX7_sortCoins 22 = .ok (.bipush 8, 2) := by decide +kernel
theorem dX7_sortCoins_24 : decode cX7_sortCoins 24 = .ok (.iload_n 1, 1) := by decide +kernel
theorem dX7_sortCoins_25 : decode cX7_sortCoins 25 = .ok (.imul, 1) := by decide +kernel
theorem dX7_sortCoins_26 : decode cX7_sortCoins 26 = .ok (.aload_n 0, 1) := by decide +kernel
theorem dX7_sortCoins_27 : decode cX7_sortCoins 27 = .ok (.getfield 65, 3) := by decide +kernel
theorem dX7_sortCoins_30 : decode cX7_sortCoins 30 = .ok (.iload_n 3, 1) := by decide +kernel
theorem dX7_sortCoins_31 : decode cX7_sortCoins 31 = .ok (.iconst 1, 1) := by decide +kernel
theorem dX7_sortCoins_32 : decode cX7_sortCoins 32 = .ok (.isub, 1) := by decide +kernel
theorem dX7_sortCoins_33 : decode cX7_sortCoins 33 = .ok (.iaload, 1) := by decide +kernel
theorem dX7_sortCoins_34 : decode cX7_sortCoins 34 = .ok (.iadd, 1) := by decide +kernel
theorem dX7_sortCoins_35 : decode cX7_sortCoins 35 = .ok (.iaload, 1) := by decide +kernel
theorem dX7_sortCoins_36 : decode cX7_sortCoins 36 = .ok (.aload_n 0, 1) := by decide +kernel
theorem dX7_sortCoins_37 : decode cX7_sortCoins 37 = .ok (.getfield 13, 3) := by decide +kernel
theorem dX7_sortCoins_40 : decode cX7_sortCoins 40 = .ok (.bipush 8, 2) := by decide +kernel
theorem dX7_sortCoins_42 : decode cX7_sortCoins 42 = .ok (.iload_n 1, 1) := by decide +kernel
theorem dX7_sortCoins_43 : decode cX7_sortCoins 43 = .ok (.imul, 1) := by decide +kernel
theorem dX7_sortCoins_44 : decode cX7_sortCoins 44 = .ok (.iload_n 2, 1) := by decide +kernel
theorem dX7_sortCoins_45 : decode cX7_sortCoins 45 = .ok (.iadd, 1) := by decide +kernel
theorem dX7_sortCoins_46 : decode cX7_sortCoins 46 = .ok (.iaload, 1) := by decide +kernel
theorem dX7_sortCoins_47 : decode cX7_sortCoins 47 = .ok (.if_icmp .ge 23, 3) := by decide +kernel
theorem dX7_sortCoins_50 : decode cX7_sortCoins 50 = .ok (.aload_n 0, 1) := by decide +kernel
theorem dX7_sortCoins_51 : decode cX7_sortCoins 51 = .ok (.getfield 65, 3) := by decide +kernel
theorem dX7_sortCoins_54 : decode cX7_sortCoins 54 = .ok (.iload_n 3, 1) := by decide +kernel
theorem dX7_sortCoins_55 : decode cX7_sortCoins 55 = .ok (.aload_n 0, 1) := by decide +kernel
theorem dX7_sortCoins_56 : decode cX7_sortCoins 56 = .ok (.getfield 65, 3) := by decide +kernel
theorem dX7_sortCoins_59 : decode cX7_sortCoins 59 = .ok (.iload_n 3, 1) := by decide +kernel
theorem dX7_sortCoins_60 : decode cX7_sortCoins 60 = .ok (.iconst 1, 1) := by decide +kernel
theorem dX7_sortCoins_61 : decode cX7_sortCoins 61 = .ok (.isub, 1) := by decide +kernel
theorem dX7_sortCoins_62 : decode cX7_sortCoins 62 = .ok (.iaload, 1) := by decide +kernel
theorem dX7_sortCoins_63 : decode cX7_sortCoins 63 = .ok (.iastore, 1) := by decide +kernel
theorem dX7_sortCoins_64 : decode cX7_sortCoins 64 = .ok (.iinc 3 (-1), 3) := by decide +kernel
theorem dX7_sortCoins_67 : decode cX7_sortCoins 67 = .ok (.goto (-53), 3) := by decide +kernel
theorem dX7_sortCoins_70 : decode cX7_sortCoins 70 = .ok (.aload_n 0, 1) := by decide +kernel
theorem dX7_sortCoins_71 : decode cX7_sortCoins 71 = .ok (.getfield 65, 3) := by decide +kernel
theorem dX7_sortCoins_74 : decode cX7_sortCoins 74 = .ok (.iload_n 3, 1) := by decide +kernel
theorem dX7_sortCoins_75 : decode cX7_sortCoins 75 = .ok (.iload_n 2, 1) := by decide +kernel
theorem dX7_sortCoins_76 : decode cX7_sortCoins 76 = .ok (.iastore, 1) := by decide +kernel
theorem dX7_sortCoins_77 : decode cX7_sortCoins 77 = .ok (.iinc 2 1, 3) := by decide +kernel
theorem dX7_sortCoins_80 : decode cX7_sortCoins 80 = .ok (.goto (-78), 3) := by decide +kernel
theorem dX7_sortCoins_83 : decode cX7_sortCoins 83 = .ok (.return_, 1) := by decide +kernel
theorem dX7_find_0 : decode cX7_find 0 = .ok (.aload_n 0, 1) := by decide +kernel
theorem dX7_find_1 : decode cX7_find 1 = .ok (.iload_n 1, 1) := by decide +kernel
theorem dX7_find_2 : decode cX7_find 2 = .ok (.invokevirtual 116, 3) := by decide +kernel
theorem dX7_find_5 : decode cX7_find 5 = .ok (.aload_n 0, 1) := by decide +kernel
theorem dX7_find_6 : decode cX7_find 6 = .ok (.getfield 7, 3) := by decide +kernel
theorem dX7_find_9 : decode cX7_find 9 = .ok (.iload_n 1, 1) := by decide +kernel
theorem dX7_find_10 : decode cX7_find 10 = .ok (.iaload, 1) := by decide +kernel
theorem dX7_find_11 : decode cX7_find 11 = .ok (.istore_n 3, 1) := by decide +kernel
theorem dX7_find_12 : decode cX7_find 12 = .ok (.iconst 0, 1) := by decide +kernel
theorem dX7_find_13 : decode cX7_find 13 = .ok (.istore 4, 2) := by decide +kernel
theorem dX7_find_15 : decode cX7_find 15 = .ok (.iload 4, 2) := by decide +kernel
theorem dX7_find_17 : decode cX7_find 17 = .ok (.iload_n 2, 1) := by decide +kernel
theorem dX7_find_18 : decode cX7_find 18 = .ok (.if_icmp .gt 33, 3) := by decide +kernel
theorem dX7_find_21 : decode cX7_find 21 = .ok (.aload_n 0, 1) := by decide +kernel
theorem dX7_find_22 : decode cX7_find 22 = .ok (.getfield 68, 3) := by decide +kernel
theorem dX7_find_25 : decode cX7_find 25 = .ok (.sipush 2001, 3) := by decide +kernel
theorem dX7_find_28 : decode cX7_find 28 = .ok (.iload_n 3, 1) := by decide +kernel
theorem dX7_find_29 : decode cX7_find 29 = .ok (.imul, 1) := by decide +kernel
theorem dX7_find_30 : decode cX7_find 30 = .ok (.iload 4, 2) := by decide +kernel
theorem dX7_find_32 : decode cX7_find 32 = .ok (.iadd, 1) := by decide +kernel
theorem dX7_find_33 : decode cX7_find 33 = .ok (.iload 4, 2) := by decide +kernel
theorem dX7_find_35 : decode cX7_find 35 = .ok (.ifCond .ne 7, 3) := by decide +kernel
theorem dX7_find_38 : decode cX7_find 38 = .ok (.iconst 0, 1) := by decide +kernel
theorem dX7_find_39 : decode cX7_find 39 = .ok (.goto 5, 3) := by decide +kernel
theorem dX7_find_42 : decode cX7_find 42 = .ok (.ldc 120, 2) := by decide +kernel
theorem dX7_find_44 : decode cX7_find 44 = .ok (.iastore, 1) := by decide +kernel
theorem dX7_find_45 : decode cX7_find 45 = .ok (.iinc 4 1, 3) := by decide +kernel
theorem dX7_find_48 : decode cX7_find 48 = .ok (.goto (-33), 3) := by decide +kernel
theorem dX7_find_51 : decode cX7_find 51 = .ok (.iload_n 3, 1) := by decide +kernel
theorem dX7_find_52 : decode cX7_find 52 = .ok (.iconst 1, 1) := by decide +kernel
theorem dX7_find_53 : decode cX7_find 53 = .ok (.isub, 1) := by decide +kernel
theorem dX7_find_54 : decode cX7_find 54 = .ok (.istore 4, 2) := by decide +kernel
theorem dX7_find_56 : decode cX7_find 56 = .ok (.iload 4, 2) := by decide +kernel
theorem dX7_find_58 : decode cX7_find 58 = .ok (.ifCond .lt 215, 3) := by decide +kernel
theorem dX7_find_61 : decode cX7_find 61 = .ok (.aload_n 0, 1) := by decide +kernel
theorem dX7_find_62 : decode cX7_find 62 = .ok (.getfield 13, 3) := by decide +kernel
theorem dX7_find_65 : decode cX7_find 65 = .ok (.bipush 8, 2) := by decide +kernel
theorem dX7_find_67 : decode cX7_find 67 = .ok (.iload_n 1, 1) := by decide +kernel
theorem dX7_find_68 : decode cX7_find 68 = .ok (.imul, 1) := by decide +kernel
theorem dX7_find_69 : decode cX7_find 69 = .ok (.aload_n 0, 1) := by decide +kernel
theorem dX7_find_70 : decode cX7_find 70 = .ok (.getfield 65, 3) := by decide +kernel
theorem dX7_find_73 : decode cX7_find 73 = .ok (.iload 4, 2) := by decide +kernel
theorem dX7_find_75 : decode cX7_find 75 = .ok (.iaload, 1) := by decide +kernel
theorem dX7_find_76 : decode cX7_find 76 = .ok (.iadd, 1) := by decide +kernel
theorem dX7_find_77 : decode cX7_find 77 = .ok (.iaload, 1) := by decide +kernel
theorem dX7_find_78 : decode cX7_find 78 = .ok (.istore 5, 2) := by decide +kernel
theorem dX7_find_80 : decode cX7_find 80 = .ok (.iconst 0, 1) := by decide +kernel
theorem dX7_find_81 : decode cX7_find 81 = .ok (.istore 6, 2) := by decide +kernel
theorem dX7_find_83 : decode cX7_find 83 = .ok (.iload 6, 2) := by decide +kernel
theorem dX7_find_85 : decode cX7_find 85 = .ok (.iload_n 2, 1) := by decide +kernel
theorem dX7_find_86 : decode cX7_find 86 = .ok (.if_icmp .gt 181, 3) := by decide +kernel
theorem dX7_find_89 : decode cX7_find 89 = .ok (.aload_n 0, 1) := by decide +kernel
theorem dX7_find_90 : decode cX7_find 90 = .ok (.getfield 74, 3) := by decide +kernel
theorem dX7_find_93 : decode cX7_find 93 = .ok (.aload_n 0, 1) := by decide +kernel
theorem dX7_find_94 : decode cX7_find 94 = .ok (.getfield 65, 3) := by decide +kernel
theorem dX7_find_97 : decode cX7_find 97 = .ok (.iload 4, 2) := by decide +kernel
theorem dX7_find_99 : decode cX7_find 99 = .ok (.iaload, 1) := by decide +kernel
theorem dX7_find_100 : decode cX7_find 100 = .ok (.iaload, 1) := by decide +kernel
theorem dX7_find_101 : decode cX7_find 101 = .ok (.sipush 2000, 3) := by decide +kernel
theorem dX7_find_104 : decode cX7_find 104 = .ok (.if_icmp .ne 32, 3) := by decide +kernel
theorem dX7_find_107 : decode cX7_find 107 = .ok (.iload 6, 2) := by decide +kernel
theorem dX7_find_109 : decode cX7_find 109 = .ok (.iload 5, 2) := by decide +kernel
theorem dX7_find_111 : decode cX7_find 111 = .ok (.if_icmp .lt 25, 3) := by decide +kernel
theorem dX7_find_114 : decode cX7_find 114 = .ok (.aload_n 0, 1) := by decide +kernel
theorem dX7_find_115 : decode cX7_find 115 = .ok (.getfield 68, 3) := by decide +kernel
theorem dX7_find_118 : decode cX7_find 118 = .ok (.sipush 2001, 3) := by decide +kernel
theorem dX7_find_121 : decode cX7_find 121 = .ok (.iload 4, 2) := by decide +kernel
theorem dX7_find_123 : decode cX7_find 123 = .ok (.imul, 1) := by decide +kernel
theorem dX7_find_124 : decode cX7_find 124 = .ok (.iload 6, 2) := by decide +kernel
theorem dX7_find_126 : decode cX7_find 126 = .ok (.iadd, 1) := by decide +kernel
theorem dX7_find_127 : decode cX7_find 127 = .ok (.iload 5, 2) := by decide +kernel
theorem dX7_find_129 : decode cX7_find 129 = .ok (.isub, 1) := by decide +kernel
theorem dX7_find_130 : decode cX7_find 130 = .ok (.iaload, 1) := by decide +kernel
theorem dX7_find_131 : decode cX7_find 131 = .ok (.iconst 1, 1) := by decide +kernel
theorem dX7_find_132 : decode cX7_find 132 = .ok (.iadd, 1) := by decide +kernel
theorem dX7_find_133 : decode cX7_find 133 = .ok (.goto 5, 3) := by decide +kernel
theorem dX7_find_136 : decode cX7_find 136 = .ok (.ldc 120, 2) := by decide +kernel
theorem dX7_find_138 : decode cX7_find 138 = .ok (.istore 7, 2) := by decide +kernel
theorem dX7_find_140 : decode cX7_find 140 = .ok (.aload_n 0, 1) := by decide +kernel
theorem dX7_find_141 : decode cX7_find 141 = .ok (.getfield 74, 3) := by decide +kernel
theorem dX7_find_144 : decode cX7_find 144 = .ok (.aload_n 0, 1) := by decide +kernel
theorem dX7_find_145 : decode cX7_find 145 = .ok (.getfield 65, 3) := by decide +kernel
theorem dX7_find_148 : decode cX7_find 148 = .ok (.iload 4, 2) := by decide +kernel
theorem dX7_find_150 : decode cX7_find 150 = .ok (.iaload, 1) := by decide +kernel
theorem dX7_find_151 : decode cX7_find 151 = .ok (.iaload, 1) := by decide +kernel
theorem dX7_find_152 : decode cX7_find 152 = .ok (.sipush 2000, 3) := by decide +kernel
theorem dX7_find_155 : decode cX7_find 155 = .ok (.if_icmp .ne 7, 3) := by decide +kernel
theorem dX7_find_158 : decode cX7_find 158 = .ok (.iconst 0, 1) := by decide +kernel
theorem dX7_find_159 : decode cX7_find 159 = .ok (.goto 15, 3) := by decide +kernel
theorem dX7_find_162 : decode cX7_find 162 = .ok (.aload_n 0, 1) := by decide +kernel
theorem dX7_find_163 : decode cX7_find 163 = .ok (.getfield 74, 3) := by decide +kernel
theorem dX7_find_166 : decode cX7_find 166 = .ok (.aload_n 0, 1) := by decide +kernel
theorem dX7_find_167 : decode cX7_find 167 = .ok (.getfield 65, 3) := by decide +kernel
theorem dX7_find_170 : decode cX7_find 170 = .ok (.iload 4, 2) := by decide +kernel
theorem dX7_find_172 : decode cX7_find 172 = .ok (.iaload, 1) := by decide +kernel
theorem dX7_find_173 : decode cX7_find 173 = .ok (.iaload, 1) := by decide +kernel
theorem dX7_find_174 : decode cX7_find 174 = .ok (.istore 8, 2) := by decide +kernel
theorem dX7_find_176 : decode cX7_find 176 = .ok (.iconst 0, 1) := by decide +kernel
theorem dX7_find_177 : decode cX7_find 177 = .ok (.istore 9, 2) := by decide +kernel
theorem dX7_find_179 : decode cX7_find 179 = .ok (.iload 9, 2) := by decide +kernel
theorem dX7_find_181 : decode cX7_find 181 = .ok (.iload 8, 2) := by decide +kernel
theorem dX7_find_183 : decode cX7_find 183 = .ok (.if_icmp .gt 62, 3) := by decide +kernel
theorem dX7_find_186 : decode cX7_find 186 = .ok (.iload 9, 2) := by decide +kernel
theorem dX7_find_188 : decode cX7_find 188 = .ok (.iload 5, 2) := by decide +kernel
theorem dX7_find_190 : decode cX7_find 190 = .ok (.imul, 1) := by decide +kernel
theorem dX7_find_191 : decode cX7_find 191 = .ok (.iload 6, 2) := by decide +kernel
theorem dX7_find_193 : decode cX7_find 193 = .ok (.if_icmp .gt 52, 3) := by decide +kernel
theorem dX7_find_196 : decode cX7_find 196 = .ok (.iload 9, 2) := by decide +kernel
theorem dX7_find_198 : decode cX7_find 198 = .ok (.aload_n 0, 1) := by decide +kernel
theorem dX7_find_199 : decode cX7_find 199 = .ok (.getfield 68, 3) := by decide +kernel
theorem dX7_find_202 : decode cX7_find 202 = .ok (.sipush 2001, 3) := by decide +kernel
theorem dX7_find_205 : decode cX7_find 205 = .ok (.iload 4, 2) := by decide +kernel
theorem dX7_find_207 : decode cX7_find 207 = .ok (.iconst 1, 1) := by decide +kernel
theorem dX7_find_208 : decode cX7_find 208 = .ok (.iadd, 1) := by decide +kernel
theorem dX7_find_209 : decode cX7_find 209 = .ok (.imul, 1) := by decide +kernel
theorem dX7_find_210 : decode cX7_find 210 = .ok (.iload 6, 2) := by decide +kernel
theorem dX7_find_212 : decode cX7_find 212 = .ok (.iadd, 1) := by decide +kernel
theorem dX7_find_213 : decode cX7_find 213 = .ok (.iload 9, 2) := by decide +kernel
theorem dX7_find_215 : decode cX7_find 215 = .ok (.iload 5, 2) := by decide +kernel
theorem dX7_find_217 : decode cX7_find 217 = .ok (.imul, 1) := by decide +kernel
theorem dX7_find_218 : decode cX7_find 218 = .ok (.isub, 1) := by decide +kernel
theorem dX7_find_219 : decode cX7_find 219 = .ok (.iaload, 1) := by decide +kernel
theorem dX7_find_220 : decode cX7_find 220 = .ok (.iadd, 1) := by decide +kernel
theorem dX7_find_221 : decode cX7_find 221 = .ok (.istore 10, 2) := by decide +kernel
theorem dX7_find_223 : decode cX7_find 223 = .ok (.iload 10, 2) := by decide +kernel
theorem dX7_find_225 : decode cX7_find 225 = .ok (.iload 7, 2) := by decide +kernel
theorem dX7_find_227 : decode cX7_find 227 = .ok (.if_icmp .ge 8, 3) := by decide +kernel
theorem dX7_find_230 : decode cX7_find 230 = .ok (.iload 10, 2) := by decide +kernel
theorem dX7_find_232 : decode cX7_find 232 = .ok (.goto 5, 3) := by decide +kernel
theorem dX7_find_235 : decode cX7_find 235 = .ok (.iload 7, 2) := by decide +kernel
theorem dX7_find_237 : decode cX7_find 237 = .ok (.istore 7, 2) := by decide +kernel
theorem dX7_find_239 : decode cX7_find 239 = .ok (.iinc 9 1, 3) := by decide +kernel
theorem dX7_find_242 : decode cX7_find 242 = .ok (.goto (-63), 3) := by decide +kernel
theorem dX7_find_245 : decode cX7_find 245 = .ok (.aload_n 0, 1) := by decide +kernel
theorem dX7_find_246 : decode cX7_find 246 = .ok (.getfield 68, 3) := by decide +kernel
theorem dX7_find_249 : decode cX7_find 249 = .ok (.sipush 2001, 3) := by decide +kernel
theorem dX7_find_252 : decode cX7_find 252 = .ok (.iload 4, 2) := by decide +kernel
theorem dX7_find_254 : decode cX7_find 254 = .ok (.imul, 1) := by decide +kernel
theorem dX7_find_255 : decode cX7_find 255 = .ok (.iload 6, 2) := by decide +kernel
theorem dX7_find_257 : decode cX7_find 257 = .ok (.iadd, 1) := by decide +kernel
theorem dX7_find_258 : decode cX7_find 258 = .ok (.iload 7, 2) := by decide +kernel
theorem dX7_find_260 : decode cX7_find 260 = .ok (.iastore, 1) := by decide +kernel
theorem dX7_find_261 : decode cX7_find 261 = .ok (.iinc 6 1, 3) := by decide +kernel
theorem dX7_find_264 : decode cX7_find 264 = .ok (.goto (-181), 3) := by decide +kernel
theorem dX7_find_267 : decode cX7_find 267 = .ok (.iinc 4 (-1), 3) := by decide +kernel
theorem dX7_find_270 : decode cX7_find 270 = .ok (.goto (-214), 3) := by decide +kernel
theorem dX7_find_273 : decode cX7_find 273 = .ok (.aload_n 0, 1) := by decide +kernel
theorem dX7_find_274 : decode cX7_find 274 = .ok (.getfield 68, 3) := by decide +kernel
theorem dX7_find_277 : decode cX7_find 277 = .ok (.iload_n 2, 1) := by decide +kernel
theorem dX7_find_278 : decode cX7_find 278 = .ok (.iaload, 1) := by decide +kernel
theorem dX7_find_279 : decode cX7_find 279 = .ok (.ldc 120, 2) := by decide +kernel
theorem dX7_find_281 : decode cX7_find 281 = .ok (.if_icmp .lt 5, 3) := by decide +kernel
theorem dX7_find_284 : decode cX7_find 284 = .ok (.iconst (-1), 1) := by decide +kernel
theorem dX7_find_285 : decode cX7_find 285 = .ok (.ireturn, 1) := by decide +kernel
theorem dX7_find_286 : decode cX7_find 286 = .ok (.iload_n 2, 1) := by decide +kernel
theorem dX7_find_287 : decode cX7_find 287 = .ok (.istore 4, 2) := by decide +kernel
theorem dX7_find_289 : decode cX7_find 289 = .ok (.iconst 0, 1) := by decide +kernel
theorem dX7_find_290 : decode cX7_find 290 = .ok (.istore 5, 2) := by decide +kernel
theorem dX7_find_292 : decode cX7_find 292 = .ok (.iload 5, 2) := by decide +kernel
theorem dX7_find_294 : decode cX7_find 294 = .ok (.iload_n 3, 1) := by decide +kernel
theorem dX7_find_295 : decode cX7_find 295 = .ok (.if_icmp .ge 142, 3) := by decide +kernel
theorem dX7_find_298 : decode cX7_find 298 = .ok (.aload_n 0, 1) := by decide +kernel
theorem dX7_find_299 : decode cX7_find 299 = .ok (.getfield 13, 3) := by decide +kernel
theorem dX7_find_302 : decode cX7_find 302 = .ok (.bipush 8, 2) := by decide +kernel
theorem dX7_find_304 : decode cX7_find 304 = .ok (.iload_n 1, 1) := by decide +kernel
theorem dX7_find_305 : decode cX7_find 305 = .ok (.imul, 1) := by decide +kernel
theorem dX7_find_306 : decode cX7_find 306 = .ok (.aload_n 0, 1) := by decide +kernel
theorem dX7_find_307 : decode cX7_find 307 = .ok (.getfield 65, 3) := by decide +kernel
theorem dX7_find_310 : decode cX7_find 310 = .ok (.iload 5, 2) := by decide +kernel
theorem dX7_find_312 : decode cX7_find 312 = .ok (.iaload, 1) := by decide +kernel
theorem dX7_find_313 : decode cX7_find 313 = .ok (.iadd, 1) := by decide +kernel
theorem dX7_find_314 : decode cX7_find 314 = .ok (.iaload, 1) := by decide +kernel
theorem dX7_find_315 : decode cX7_find 315 = .ok (.istore 6, 2) := by decide +kernel
theorem dX7_find_317 : decode cX7_find 317 = .ok (.iload 4, 2) := by decide +kernel
theorem dX7_find_319 : decode cX7_find 319 = .ok (.iload 6, 2) := by decide +kernel
theorem dX7_find_321 : decode cX7_find 321 = .ok (.idiv, 1) := by decide +kernel
theorem dX7_find_322 : decode cX7_find 322 = .ok (.aload_n 0, 1) := by decide +kernel
theorem dX7_find_323 : decode cX7_find 323 = .ok (.getfield 74, 3) := by decide +kernel
theorem dX7_find_326 : decode cX7_find 326 = .ok (.aload_n 0, 1) := by decide +kernel
theorem dX7_find_327 : decode cX7_find 327 = .ok (.getfield 65, 3) := by decide +kernel
theorem dX7_find_330 : decode cX7_find 330 = .ok (.iload 5, 2) := by decide +kernel
theorem dX7_find_332 : decode cX7_find 332 = .ok (.iaload, 1) := by decide +kernel
theorem dX7_find_333 : decode cX7_find 333 = .ok (.iaload, 1) := by decide +kernel
theorem dX7_find_334 : decode cX7_find 334 = .ok (.if_icmp .ge 11, 3) := by decide +kernel
theorem dX7_find_337 : decode cX7_find 337 = .ok (.iload 4, 2) := by decide +kernel
theorem dX7_find_339 : decode cX7_find 339 = .ok (.iload 6, 2) := by decide +kernel
theorem dX7_find_341 : decode cX7_find 341 = .ok (.idiv, 1) := by decide +kernel
theorem dX7_find_342 : decode cX7_find 342 = .ok (.goto 15, 3) := by decide +kernel
theorem dX7_find_345 : decode cX7_find 345 = .ok (.aload_n 0, 1) := by decide +kernel
theorem dX7_find_346 : decode cX7_find 346 = .ok (.getfield 74, 3) := by decide +kernel
theorem dX7_find_349 : decode cX7_find 349 = .ok (.aload_n 0, 1) := by decide +kernel
theorem dX7_find_350 : decode cX7_find 350 = .ok (.getfield 65, 3) := by decide +kernel
theorem dX7_find_353 : decode cX7_find 353 = .ok (.iload 5, 2) := by decide +kernel
theorem dX7_find_355 : decode cX7_find 355 = .ok (.iaload, 1) := by decide +kernel
theorem dX7_find_356 : decode cX7_find 356 = .ok (.iaload, 1) := by decide +kernel
theorem dX7_find_357 : decode cX7_find 357 = .ok (.istore 7, 2) := by decide +kernel
theorem dX7_find_359 : decode cX7_find 359 = .ok (.iload 7, 2) := by decide +kernel
theorem dX7_find_361 : decode cX7_find 361 = .ok (.aload_n 0, 1) := by decide +kernel
theorem dX7_find_362 : decode cX7_find 362 = .ok (.getfield 68, 3) := by decide +kernel
theorem dX7_find_365 : decode cX7_find 365 = .ok (.sipush 2001, 3) := by decide +kernel
theorem dX7_find_368 : decode cX7_find 368 = .ok (.iload 5, 2) := by decide +kernel
theorem dX7_find_370 : decode cX7_find 370 = .ok (.iconst 1, 1) := by decide +kernel
theorem dX7_find_371 : decode cX7_find 371 = .ok (.iadd, 1) := by decide +kernel
theorem dX7_find_372 : decode cX7_find 372 = .ok (.imul, 1) := by decide +kernel
theorem dX7_find_373 : decode cX7_find 373 = .ok (.iload 4, 2) := by decide +kernel
theorem dX7_find_375 : decode cX7_find 375 = .ok (.iadd, 1) := by decide +kernel
theorem dX7_find_376 : decode cX7_find 376 = .ok (.iload 7, 2) := by decide +kernel
theorem dX7_find_378 : decode cX7_find 378 = .ok (.iload 6, 2) := by decide +kernel
theorem dX7_find_380 : decode cX7_find 380 = .ok (.imul, 1) := by decide +kernel
theorem dX7_find_381 : decode cX7_find 381 = .ok (.isub, 1) := by decide +kernel
theorem dX7_find_382 : decode cX7_find 382 = .ok (.iaload, 1) := by decide +kernel
theorem dX7_find_383 : decode cX7_find 383 = .ok (.iadd, 1) := by decide +kernel
theorem dX7_find_384 : decode cX7_find 384 = .ok (.aload_n 0, 1) := by decide +kernel
theorem dX7_find_385 : decode cX7_find 385 = .ok (.getfield 68, 3) := by decide +kernel
theorem dX7_find_388 : decode cX7_find 388 = .ok (.sipush 2001, 3) := by decide +kernel
theorem dX7_find_391 : decode cX7_find 391 = .ok (.iload 5, 2) := by decide +kernel
theorem dX7_find_393 : decode cX7_find 393 = .ok (.imul, 1) := by decide +kernel
theorem dX7_find_394 : decode cX7_find 394 = .ok (.iload 4, 2) := by decide +kernel
theorem dX7_find_396 : decode cX7_find 396 = .ok (.iadd, 1) := by decide +kernel
theorem dX7_find_397 : decode cX7_find 397 = .ok (.iaload, 1) := by decide +kernel
theorem dX7_find_398 : decode cX7_find 398 = .ok (.if_icmp .eq 9, 3) := by decide +kernel
theorem dX7_find_401 : decode cX7_find 401 = .ok (.iinc 7 (-1), 3) := by decide +kernel
theorem dX7_find_404 : decode cX7_find 404 = .ok (.goto (-45), 3) := by decide +kernel
theorem dX7_find_407 : decode cX7_find 407 = .ok (.aload_n 0, 1) := by decide +kernel
theorem dX7_find_408 : decode cX7_find 408 = .ok (.getfield 71, 3) := by decide +kernel
theorem dX7_find_411 : decode cX7_find 411 = .ok (.aload_n 0, 1) := by decide +kernel
theorem dX7_find_412 : decode cX7_find 412 = .ok (.getfield 65, 3) := by decide +kernel
theorem dX7_find_415 : decode cX7_find 415 = .ok (.iload 5, 2) := by decide +kernel
theorem dX7_find_417 : decode cX7_find 417 = .ok (.iaload, 1) := by decide +kernel
theorem dX7_find_418 : decode cX7_find 418 = .ok (.iload 7, 2) := by decide +kernel
theorem dX7_find_420 : decode cX7_find 420 = .ok (.iastore, 1) := by decide +kernel
theorem dX7_find_421 : decode cX7_find 421 = .ok (.iload 4, 2) := by decide +kernel
theorem dX7_find_423 : decode cX7_find 423 = .ok (.iload 7, 2) := by decide +kernel
theorem dX7_find_425 : decode cX7_find 425 = .ok (.iload 6, 2) := by decide +kernel
theorem dX7_find_427 : decode cX7_find 427 = .ok (.imul, 1) := by decide +kernel
theorem dX7_find_428 : decode cX7_find 428 = .ok (.isub, 1) := by decide +kernel
theorem dX7_find_429 : decode cX7_find 429 = .ok (.istore 4, 2) := by decide +kernel
theorem dX7_find_431 : decode cX7_find 431 = .ok (.iinc 5 1, 3) := by decide +kernel
theorem dX7_find_434 : decode cX7_find 434 = .ok (.goto (-142), 3) := by decide +kernel
theorem dX7_find_437 : decode cX7_find 437 = .ok (.aload_n 0, 1) := by decide +kernel
theorem dX7_find_438 : decode cX7_find 438 = .ok (.getfield 68, 3) := by decide +kernel
theorem dX7_find_441 : decode cX7_find 441 = .ok (.iload_n 2, 1) := by decide +kernel
theorem dX7_find_442 : decode cX7_find 442 = .ok (.iaload, 1) := by decide +kernel
theorem dX7_find_443 : decode cX7_find 443 = .ok (.ireturn, 1) := by decide +kernel
theorem dX7_noBounds_0 : decode cX7_noBounds 0 = .ok (.iconst 0, 1) := by decide +kernel
theorem dX7_noBounds_1 : decode cX7_noBounds 1 = .ok (.istore_n 1, 1) := by decide +kernel
theorem dX7_noBounds_2 : decode cX7_noBounds 2 = .ok (.iload_n 1, 1) := by decide +kernel
theorem dX7_noBounds_3 : decode cX7_noBounds 3 = .ok (.bipush 8, 2) := by decide +kernel
theorem dX7_noBounds_5 : decode cX7_noBounds 5 = .ok (.if_icmp .ge 18, 3) := by decide +kernel
theorem dX7_noBounds_8 : decode cX7_noBounds 8 = .ok (.aload_n 0, 1) := by decide +kernel
theorem dX7_noBounds_9 : decode cX7_noBounds 9 = .ok (.getfield 74, 3) := by decide +kernel
theorem dX7_noBounds_12 : decode cX7_noBounds 12 = .ok (.iload_n 1, 1) := by decide +kernel
theorem dX7_noBounds_13 : decode cX7_noBounds 13 = .ok (.sipush 2000, 3) := by decide +kernel
theorem dX7_noBounds_16 : decode cX7_noBounds 16 = .ok (.iastore, 1) := by decide +kernel
theorem dX7_noBounds_17 : decode cX7_noBounds 17 = .ok (.iinc 1 1, 3) := by decide +kernel
theorem dX7_noBounds_20 : decode cX7_noBounds 20 = .ok (.goto (-18), 3) := by decide +kernel
theorem dX7_noBounds_23 : decode cX7_noBounds 23 = .ok (.return_, 1) := by decide +kernel
theorem dX7_fewest_0 : decode cX7_fewest 0 = .ok (.aload_n 0, 1) := by decide +kernel
theorem dX7_fewest_1 : decode cX7_fewest 1 = .ok (.iconst 0, 1) := by decide +kernel
theorem dX7_fewest_2 : decode cX7_fewest 2 = .ok (.putfield 90, 3) := by decide +kernel
theorem dX7_fewest_5 : decode cX7_fewest 5 = .ok (.iload_n 1, 1) := by decide +kernel
theorem dX7_fewest_6 : decode cX7_fewest 6 = .ok (.iconst 0, 1) := by decide +kernel
theorem dX7_fewest_7 : decode cX7_fewest 7 = .ok (.iconst 1, 1) := by decide +kernel
theorem dX7_fewest_8 : decode cX7_fewest 8 = .ok (.invokestatic 98, 3) := by decide +kernel
theorem dX7_fewest_11 : decode cX7_fewest 11 = .ok (.ifCond .eq 28, 3) := by decide +kernel
theorem dX7_fewest_14 : decode cX7_fewest 14 = .ok (.iload_n 2, 1) := by decide +kernel
theorem dX7_fewest_15 : decode cX7_fewest 15 = .ok (.iconst 0, 1) := by decide +kernel
theorem dX7_fewest_16 : decode cX7_fewest 16 = .ok (.sipush 2000, 3) := by decide +kernel
theorem dX7_fewest_19 : decode cX7_fewest 19 = .ok (.invokestatic 98, 3) := by decide +kernel
theorem dX7_fewest_22 : decode cX7_fewest 22 = .ok (.ifCond .eq 17, 3) := by decide +kernel
theorem dX7_fewest_25 : decode cX7_fewest 25 = .ok (.iload_n 3, 1) := by decide +kernel
theorem dX7_fewest_26 : decode cX7_fewest 26 = .ok (.iconst (-1), 1) := by decide +kernel
theorem dX7_fewest_27 : decode cX7_fewest 27 = .ok (.if_icmp .eq 14, 3) := by decide +kernel
theorem dX7_fewest_30 : decode cX7_fewest 30 = .ok (.aload_n 0, 1) := by decide +kernel
theorem dX7_fewest_31 : decode cX7_fewest 31 = .ok (.iload_n 1, 1) := by decide +kernel
theorem dX7_fewest_32 : decode cX7_fewest 32 = .ok (.iload_n 3, 1) := by decide +kernel
theorem dX7_fewest_33 : decode cX7_fewest 33 = .ok (.invokevirtual 121, 3) := by decide +kernel
theorem dX7_fewest_36 : decode cX7_fewest 36 = .ok (.ifCond .ne 5, 3) := by decide +kernel
theorem dX7_fewest_39 : decode cX7_fewest 39 = .ok (.iconst (-1), 1) := by decide +kernel
theorem dX7_fewest_40 : decode cX7_fewest 40 = .ok (.ireturn, 1) := by decide +kernel
theorem dX7_fewest_41 : decode cX7_fewest 41 = .ok (.aload_n 0, 1) := by decide +kernel
theorem dX7_fewest_42 : decode cX7_fewest 42 = .ok (.invokevirtual 125, 3) := by decide +kernel
theorem dX7_fewest_45 : decode cX7_fewest 45 = .ok (.aload_n 0, 1) := by decide +kernel
theorem dX7_fewest_46 : decode cX7_fewest 46 = .ok (.iload_n 1, 1) := by decide +kernel
theorem dX7_fewest_47 : decode cX7_fewest 47 = .ok (.iload_n 2, 1) := by decide +kernel
theorem dX7_fewest_48 : decode cX7_fewest 48 = .ok (.invokevirtual 128, 3) := by decide +kernel
theorem dX7_fewest_51 : decode cX7_fewest 51 = .ok (.istore 4, 2) := by decide +kernel
theorem dX7_fewest_53 : decode cX7_fewest 53 = .ok (.iload 4, 2) := by decide +kernel
theorem dX7_fewest_55 : decode cX7_fewest 55 = .ok (.iconst (-1), 1) := by decide +kernel
theorem dX7_fewest_56 : decode cX7_fewest 56 = .ok (.if_icmp .eq 8, 3) := by decide +kernel
theorem dX7_fewest_59 : decode cX7_fewest 59 = .ok (.iload_n 3, 1) := by decide +kernel
theorem dX7_fewest_60 : decode cX7_fewest 60 = .ok (.iconst (-1), 1) := by decide +kernel
theorem dX7_fewest_61 : decode cX7_fewest 61 = .ok (.if_icmp .ne 8, 3) := by decide +kernel
theorem dX7_fewest_64 : decode cX7_fewest 64 = .ok (.iload 4, 2) := by decide +kernel
theorem dX7_fewest_66 : decode cX7_fewest 66 = .ok (.goto 9, 3) := by decide +kernel
theorem dX7_fewest_69 : decode cX7_fewest 69 = .ok (.aload_n 0, 1) := by decide +kernel
theorem dX7_fewest_70 : decode cX7_fewest 70 = .ok (.getfield 71, 3) := by decide +kernel
theorem dX7_fewest_73 : decode cX7_fewest 73 = .ok (.iload_n 3, 1) := by decide +kernel
theorem dX7_fewest_74 : decode cX7_fewest 74 = .ok (.iaload, 1) := by decide +kernel
theorem dX7_fewest_75 : decode cX7_fewest 75 = .ok (.ireturn, 1) := by decide +kernel
theorem dX7_greedyOf_0 : decode cX7_greedyOf 0 = .ok (.iload_n 2, 1) := by decide +kernel
theorem dX7_greedyOf_1 : decode cX7_greedyOf 1 = .ok (.istore_n 3, 1) := by decide +kernel
theorem dX7_greedyOf_2 : decode cX7_greedyOf 2 = .ok (.iconst 0, 1) := by decide +kernel
theorem dX7_greedyOf_3 : decode cX7_greedyOf 3 = .ok (.istore 4, 2) := by decide +kernel
theorem dX7_greedyOf_5 : decode cX7_greedyOf 5 = .ok (.iconst 0, 1) := by decide +kernel
theorem dX7_greedyOf_6 : decode cX7_greedyOf 6 = .ok (.istore 5, 2) := by decide +kernel
theorem dX7_greedyOf_8 : decode cX7_greedyOf 8 = .ok (.iload 5, 2) := by decide +kernel
theorem dX7_greedyOf_10 : decode cX7_greedyOf 10 = .ok (.aload_n 0, 1) := by decide +kernel
theorem dX7_greedyOf_11 : decode cX7_greedyOf 11 = .ok (.getfield 7, 3) := by decide +kernel
theorem dX7_greedyOf_14 : decode cX7_greedyOf 14 = .ok (.iload_n 1, 1) := by decide +kernel
theorem dX7_greedyOf_15 : decode cX7_greedyOf 15 = .ok (.iaload, 1) := by decide +kernel
theorem dX7_greedyOf_16 : decode cX7_greedyOf 16 = .ok (.if_icmp .ge 42, 3) := by decide +kernel
theorem dX7_greedyOf_19 : decode cX7_greedyOf 19 = .ok (.aload_n 0, 1) := by decide +kernel
theorem dX7_greedyOf_20 : decode cX7_greedyOf 20 = .ok (.getfield 13, 3) := by decide +kernel
theorem dX7_greedyOf_23 : decode cX7_greedyOf 23 = .ok (.bipush 8, 2) := by decide +kernel
theorem dX7_greedyOf_25 : decode cX7_greedyOf 25 = .ok (.iload_n 1, 1) := by decide +kernel
theorem dX7_greedyOf_26 : decode cX7_greedyOf 26 = .ok (.imul, 1) := by decide +kernel
theorem dX7_greedyOf_27 : decode cX7_greedyOf 27 = .ok (.aload_n 0, 1) := by decide +kernel
theorem dX7_greedyOf_28 : decode cX7_greedyOf 28 = .ok (.getfield 65, 3) := by decide +kernel
theorem dX7_greedyOf_31 : decode cX7_greedyOf 31 = .ok (.iload 5, 2) := by decide +kernel
theorem dX7_greedyOf_33 : decode cX7_greedyOf 33 = .ok (.iaload, 1) := by decide +kernel
theorem dX7_greedyOf_34 : decode cX7_greedyOf 34 = .ok (.iadd, 1) := by decide +kernel
theorem dX7_greedyOf_35 : decode cX7_greedyOf 35 = .ok (.iaload, 1) := by decide +kernel
theorem dX7_greedyOf_36 : decode cX7_greedyOf 36 = .ok (.istore 6, 2) := by decide +kernel
theorem dX7_greedyOf_38 : decode cX7_greedyOf 38 = .ok (.iload 4, 2) := by decide +kernel
theorem dX7_greedyOf_40 : decode cX7_greedyOf 40 = .ok (.iload_n 3, 1) := by decide +kernel
theorem dX7_greedyOf_41 : decode cX7_greedyOf 41 = .ok (.iload 6, 2) := by decide +kernel
theorem dX7_greedyOf_43 : decode cX7_greedyOf 43 = .ok (.idiv, 1) := by decide +kernel
theorem dX7_greedyOf_44 : decode cX7_greedyOf 44 = .ok (.iadd, 1) := by decide +kernel
theorem dX7_greedyOf_45 : decode cX7_greedyOf 45 = .ok (.istore 4, 2) := by decide +kernel
theorem dX7_greedyOf_47 : decode cX7_greedyOf 47 = .ok (.iload_n 3, 1) := by decide +kernel
theorem dX7_greedyOf_48 : decode cX7_greedyOf 48 = .ok (.iload 6, 2) := by decide +kernel
theorem dX7_greedyOf_50 : decode cX7_greedyOf 50 = .ok (.irem, 1) := by decide +kernel
theorem dX7_greedyOf_51 : decode cX7_greedyOf 51 = .ok (.istore_n 3, 1) := by decide +kernel
theorem dX7_greedyOf_52 : decode cX7_greedyOf 52 = .ok (.iinc 5 1, 3) := by decide +kernel
theorem dX7_greedyOf_55 : decode cX7_greedyOf 55 = .ok (.goto (-47), 3) := by decide +kernel
theorem dX7_greedyOf_58 : decode cX7_greedyOf 58 = .ok (.iload_n 3, 1) := by decide +kernel
theorem dX7_greedyOf_59 : decode cX7_greedyOf 59 = .ok (.ifCond .ne 8, 3) := by decide +kernel
theorem dX7_greedyOf_62 : decode cX7_greedyOf 62 = .ok (.iload 4, 2) := by decide +kernel
theorem dX7_greedyOf_64 : decode cX7_greedyOf 64 = .ok (.goto 4, 3) := by decide +kernel
theorem dX7_greedyOf_67 : decode cX7_greedyOf 67 = .ok (.iconst (-1), 1) := by decide +kernel
theorem dX7_greedyOf_68 : decode cX7_greedyOf 68 = .ok (.ireturn, 1) := by decide +kernel
theorem dX7_greedy_0 : decode cX7_greedy 0 = .ok (.aload_n 0, 1) := by decide +kernel
theorem dX7_greedy_1 : decode cX7_greedy 1 = .ok (.iconst 0, 1) := by decide +kernel
theorem dX7_greedy_2 : decode cX7_greedy 2 = .ok (.putfield 90, 3) := by decide +kernel
theorem dX7_greedy_5 : decode cX7_greedy 5 = .ok (.iload_n 1, 1) := by decide +kernel
theorem dX7_greedy_6 : decode cX7_greedy 6 = .ok (.iconst 0, 1) := by decide +kernel
theorem dX7_greedy_7 : decode cX7_greedy 7 = .ok (.iconst 1, 1) := by decide +kernel
theorem dX7_greedy_8 : decode cX7_greedy 8 = .ok (.invokestatic 98, 3) := by decide +kernel
theorem dX7_greedy_11 : decode cX7_greedy 11 = .ok (.ifCond .eq 14, 3) := by decide +kernel
theorem dX7_greedy_14 : decode cX7_greedy 14 = .ok (.iload_n 2, 1) := by decide +kernel
theorem dX7_greedy_15 : decode cX7_greedy 15 = .ok (.iconst 0, 1) := by decide +kernel
theorem dX7_greedy_16 : decode cX7_greedy 16 = .ok (.sipush 2000, 3) := by decide +kernel
theorem dX7_greedy_19 : decode cX7_greedy 19 = .ok (.invokestatic 98, 3) := by decide +kernel
theorem dX7_greedy_22 : decode cX7_greedy 22 = .ok (.ifCond .ne 5, 3) := by decide +kernel
theorem dX7_greedy_25 : decode cX7_greedy 25 = .ok (.iconst (-1), 1) := by decide +kernel
theorem dX7_greedy_26 : decode cX7_greedy 26 = .ok (.ireturn, 1) := by decide +kernel
theorem dX7_greedy_27 : decode cX7_greedy 27 = .ok (.aload_n 0, 1) := by decide +kernel
theorem dX7_greedy_28 : decode cX7_greedy 28 = .ok (.iload_n 1, 1) := by decide +kernel
theorem dX7_greedy_29 : decode cX7_greedy 29 = .ok (.invokevirtual 116, 3) := by decide +kernel
theorem dX7_greedy_32 : decode cX7_greedy 32 = .ok (.aload_n 0, 1) := by decide +kernel
theorem dX7_greedy_33 : decode cX7_greedy 33 = .ok (.iload_n 1, 1) := by decide +kernel
theorem dX7_greedy_34 : decode cX7_greedy 34 = .ok (.iload_n 2, 1) := by decide +kernel
theorem dX7_greedy_35 : decode cX7_greedy 35 = .ok (.invokevirtual 131, 3) := by decide +kernel
theorem dX7_greedy_38 : decode cX7_greedy 38 = .ok (.ireturn, 1) := by decide +kernel
theorem dX7_odd_0 : decode cX7_odd 0 = .ok (.aload_n 0, 1) := by decide +kernel
theorem dX7_odd_1 : decode cX7_odd 1 = .ok (.iconst 0, 1) := by decide +kernel
theorem dX7_odd_2 : decode cX7_odd 2 = .ok (.putfield 90, 3) := by decide +kernel
theorem dX7_odd_5 : decode cX7_odd 5 = .ok (.iload_n 1, 1) := by decide +kernel
theorem dX7_odd_6 : decode cX7_odd 6 = .ok (.iconst 0, 1) := by decide +kernel
theorem dX7_odd_7 : decode cX7_odd 7 = .ok (.iconst 1, 1) := by decide +kernel
theorem dX7_odd_8 : decode cX7_odd 8 = .ok (.invokestatic 98, 3) := by decide +kernel
theorem dX7_odd_11 : decode cX7_odd 11 = .ok (.ifCond .ne 5, 3) := by decide +kernel
theorem dX7_odd_14 : decode cX7_odd 14 = .ok (.iconst (-1), 1) := by decide +kernel
theorem dX7_odd_15 : decode cX7_odd 15 = .ok (.ireturn, 1) := by decide +kernel
theorem dX7_odd_16 : decode cX7_odd 16 = .ok (.aload_n 0, 1) := by decide +kernel
theorem dX7_odd_17 : decode cX7_odd 17 = .ok (.iload_n 1, 1) := by decide +kernel
theorem dX7_odd_18 : decode cX7_odd 18 = .ok (.invokevirtual 116, 3) := by decide +kernel
theorem dX7_odd_21 : decode cX7_odd 21 = .ok (.aload_n 0, 1) := by decide +kernel
theorem dX7_odd_22 : decode cX7_odd 22 = .ok (.getfield 77, 3) := by decide +kernel
theorem dX7_odd_25 : decode cX7_odd 25 = .ok (.iconst 0, 1) := by decide +kernel
theorem dX7_odd_26 : decode cX7_odd 26 = .ok (.iconst 0, 1) := by decide +kernel
theorem dX7_odd_27 : decode cX7_odd 27 = .ok (.iastore, 1) := by decide +kernel
theorem dX7_odd_28 : decode cX7_odd 28 = .ok (.iconst 1, 1) := by decide +kernel
theorem dX7_odd_29 : decode cX7_odd 29 = .ok (.istore_n 2, 1) := by decide +kernel
theorem dX7_odd_30 : decode cX7_odd 30 = .ok (.iload_n 2, 1) := by decide +kernel
theorem dX7_odd_31 : decode cX7_odd 31 = .ok (.sipush 2000, 3) := by decide +kernel
theorem dX7_odd_34 : decode cX7_odd 34 = .ok (.if_icmp .gt 126, 3) := by decide +kernel
theorem dX7_odd_37 : decode cX7_odd 37 = .ok (.aload_n 0, 1) := by decide +kernel
theorem dX7_odd_38 : decode cX7_odd 38 = .ok (.getfield 77, 3) := by decide +kernel
theorem dX7_odd_41 : decode cX7_odd 41 = .ok (.iload_n 2, 1) := by decide +kernel
theorem dX7_odd_42 : decode cX7_odd 42 = .ok (.ldc 120, 2) := by decide +kernel
theorem dX7_odd_44 : decode cX7_odd 44 = .ok (.iastore, 1) := by decide +kernel
theorem dX7_odd_45 : decode cX7_odd 45 = .ok (.iconst 0, 1) := by decide +kernel
theorem dX7_odd_46 : decode cX7_odd 46 = .ok (.istore_n 3, 1) := by decide +kernel
theorem dX7_odd_47 : decode cX7_odd 47 = .ok (.iload_n 3, 1) := by decide +kernel
theorem dX7_odd_48 : decode cX7_odd 48 = .ok (.aload_n 0, 1) := by decide +kernel
theorem dX7_odd_49 : decode cX7_odd 49 = .ok (.getfield 7, 3) := by decide +kernel
theorem dX7_odd_52 : decode cX7_odd 52 = .ok (.iload_n 1, 1) := by decide +kernel
theorem dX7_odd_53 : decode cX7_odd 53 = .ok (.iaload, 1) := by decide +kernel
theorem dX7_odd_54 : decode cX7_odd 54 = .ok (.if_icmp .ge 65, 3) := by decide +kernel
theorem dX7_odd_57 : decode cX7_odd 57 = .ok (.aload_n 0, 1) := by decide +kernel
theorem dX7_odd_58 : decode cX7_odd 58 = .ok (.getfield 13, 3) := by decide +kernel
theorem dX7_odd_61 : decode cX7_odd 61 = .ok (.bipush 8, 2) := by decide +kernel
theorem dX7_odd_63 : decode cX7_odd 63 = .ok (.iload_n 1, 1) := by decide +kernel
theorem dX7_odd_64 : decode cX7_odd 64 = .ok (.imul, 1) := by decide +kernel
theorem dX7_odd_65 : decode cX7_odd 65 = .ok (.iload_n 3, 1) := by decide +kernel
theorem dX7_odd_66 : decode cX7_odd 66 = .ok (.iadd, 1) := by decide +kernel
theorem dX7_odd_67 : decode cX7_odd 67 = .ok (.iaload, 1) := by decide +kernel
theorem dX7_odd_68 : decode cX7_odd 68 = .ok (.istore 4, 2) := by decide +kernel
theorem dX7_odd_70 : decode cX7_odd 70 = .ok (.iload 4, 2) := by decide +kernel
theorem dX7_odd_72 : decode cX7_odd 72 = .ok (.iload_n 2, 1) := by decide +kernel
theorem dX7_odd_73 : decode cX7_odd 73 = .ok (.if_icmp .gt 40, 3) := by decide +kernel
theorem dX7_odd_76 : decode cX7_odd 76 = .ok (.aload_n 0, 1) := by decide +kernel
theorem dX7_odd_77 : decode cX7_odd 77 = .ok (.getfield 77, 3) := by decide +kernel
theorem dX7_odd_80 : decode cX7_odd 80 = .ok (.iload_n 2, 1) := by decide +kernel
theorem dX7_odd_81 : decode cX7_odd 81 = .ok (.iload 4, 2) := by decide +kernel
theorem dX7_odd_83 : decode cX7_odd 83 = .ok (.isub, 1) := by decide +kernel
theorem dX7_odd_84 : decode cX7_odd 84 = .ok (.iaload, 1) := by decide +kernel
theorem dX7_odd_85 : decode cX7_odd 85 = .ok (.iconst 1, 1) := by decide +kernel
theorem dX7_odd_86 : decode cX7_odd 86 = .ok (.iadd, 1) := by decide +kernel
theorem dX7_odd_87 : decode cX7_odd 87 = .ok (.aload_n 0, 1) := by decide +kernel
theorem dX7_odd_88 : decode cX7_odd 88 = .ok (.getfield 77, 3) := by decide +kernel
theorem dX7_odd_91 : decode cX7_odd 91 = .ok (.iload_n 2, 1) := by decide +kernel
theorem dX7_odd_92 : decode cX7_odd 92 = .ok (.iaload, 1) := by decide +kernel
theorem dX7_odd_93 : decode cX7_odd 93 = .ok (.if_icmp .ge 20, 3) := by decide +kernel
theorem dX7_odd_96 : decode cX7_odd 96 = .ok (.aload_n 0, 1) := by decide +kernel
theorem dX7_odd_97 : decode cX7_odd 97 = .ok (.getfield 77, 3) := by decide +kernel
theorem dX7_odd_100 : decode cX7_odd 100 = .ok (.iload_n 2, 1) := by decide +kernel
theorem dX7_odd_101 : decode cX7_odd 101 = .ok (.aload_n 0, 1) := by decide +kernel
theorem dX7_odd_102 : decode cX7_odd 102 = .ok (.getfield 77, 3) := by decide +kernel
theorem dX7_odd_105 : decode cX7_odd 105 = .ok (.iload_n 2, 1) := by decide +kernel
theorem dX7_odd_106 : decode cX7_odd 106 = .ok (.iload 4, 2) := by decide +kernel
theorem dX7_odd_108 : decode cX7_odd 108 = .ok (.isub, 1) := by decide +kernel
theorem dX7_odd_109 : decode cX7_odd 109 = .ok (.iaload, 1) := by decide +kernel
theorem dX7_odd_110 : decode cX7_odd 110 = .ok (.iconst 1, 1) := by decide +kernel
theorem dX7_odd_111 : decode cX7_odd 111 = .ok (.iadd, 1) := by decide +kernel
theorem dX7_odd_112 : decode cX7_odd 112 = .ok (.iastore, 1) := by decide +kernel
theorem dX7_odd_113 : decode cX7_odd 113 = .ok (.iinc 3 1, 3) := by decide +kernel
theorem dX7_odd_116 : decode cX7_odd 116 = .ok (.goto (-69), 3) := by decide +kernel
theorem dX7_odd_119 : decode cX7_odd 119 = .ok (.aload_n 0, 1) := by decide +kernel
theorem dX7_odd_120 : decode cX7_odd 120 = .ok (.getfield 77, 3) := by decide +kernel
theorem dX7_odd_123 : decode cX7_odd 123 = .ok (.iload_n 2, 1) := by decide +kernel
theorem dX7_odd_124 : decode cX7_odd 124 = .ok (.iaload, 1) := by decide +kernel
theorem dX7_odd_125 : decode cX7_odd 125 = .ok (.ldc 120, 2) := by decide +kernel
theorem dX7_odd_127 : decode cX7_odd 127 = .ok (.if_icmp .ge 27, 3) := by decide +kernel
theorem dX7_odd_130 : decode cX7_odd 130 = .ok (.aload_n 0, 1) := by decide +kernel
theorem dX7_odd_131 : decode cX7_odd 131 = .ok (.iload_n 1, 1) := by decide +kernel
theorem dX7_odd_132 : decode cX7_odd 132 = .ok (.iload_n 2, 1) := by decide +kernel
theorem dX7_odd_133 : decode cX7_odd 133 = .ok (.invokevirtual 131, 3) := by decide +kernel
theorem dX7_odd_136 : decode cX7_odd 136 = .ok (.istore_n 3, 1) := by decide +kernel
theorem dX7_odd_137 : decode cX7_odd 137 = .ok (.iload_n 3, 1) := by decide +kernel
theorem dX7_odd_138 : decode cX7_odd 138 = .ok (.iconst (-1), 1) := by decide +kernel
theorem dX7_odd_139 : decode cX7_odd 139 = .ok (.if_icmp .eq 13, 3) := by decide +kernel
theorem dX7_odd_142 : decode cX7_odd 142 = .ok (.iload_n 3, 1) := by decide +kernel
theorem dX7_odd_143 : decode cX7_odd 143 = .ok (.aload_n 0, 1) := by decide +kernel
theorem dX7_odd_144 : decode cX7_odd 144 = .ok (.getfield 77, 3) := by decide +kernel
theorem dX7_odd_147 : decode cX7_odd 147 = .ok (.iload_n 2, 1) := by decide +kernel
theorem dX7_odd_148 : decode cX7_odd 148 = .ok (.iaload, 1) := by decide +kernel
theorem dX7_odd_149 : decode cX7_odd 149 = .ok (.if_icmp .le 5, 3) := by decide +kernel
theorem dX7_odd_152 : decode cX7_odd 152 = .ok (.iload_n 2, 1) := by decide +kernel
theorem dX7_odd_153 : decode cX7_odd 153 = .ok (.ireturn, 1) := by decide +kernel
theorem dX7_odd_154 : decode cX7_odd 154 = .ok (.iinc 2 1, 3) := by decide +kernel
theorem dX7_odd_157 : decode cX7_odd 157 = .ok (.goto (-127), 3) := by decide +kernel
theorem dX7_odd_160 : decode cX7_odd 160 = .ok (.iconst (-1), 1) := by decide +kernel
theorem dX7_odd_161 : decode cX7_odd 161 = .ok (.ireturn, 1) := by decide +kernel
theorem dX7_isTill_0 : decode cX7_isTill 0 = .ok (.iload_n 1, 1) := by decide +kernel
theorem dX7_isTill_1 : decode cX7_isTill 1 = .ok (.iconst 0, 1) := by decide +kernel
theorem dX7_isTill_2 : decode cX7_isTill 2 = .ok (.aload_n 0, 1) := by decide +kernel
theorem dX7_isTill_3 : decode cX7_isTill 3 = .ok (.getfield 34, 3) := by decide +kernel
theorem dX7_isTill_6 : decode cX7_isTill 6 = .ok (.iconst 0, 1) := by decide +kernel
theorem dX7_isTill_7 : decode cX7_isTill 7 = .ok (.iaload, 1) := by decide +kernel
theorem dX7_isTill_8 : decode cX7_isTill 8 = .ok (.iconst 1, 1) := by decide +kernel
theorem dX7_isTill_9 : decode cX7_isTill 9 = .ok (.isub, 1) := by decide +kernel
theorem dX7_isTill_10 : decode cX7_isTill 10 = .ok (.invokestatic 98, 3) := by decide +kernel
theorem dX7_isTill_13 : decode cX7_isTill 13 = .ok (.ireturn, 1) := by decide +kernel
theorem dX7_cell_0 : decode cX7_cell 0 = .ok (.bipush 8, 2) := by decide +kernel
theorem dX7_cell_2 : decode cX7_cell 2 = .ok (.iconst 2, 1) := by decide +kernel
theorem dX7_cell_3 : decode cX7_cell 3 = .ok (.iload_n 0, 1) := by decide +kernel
theorem dX7_cell_4 : decode cX7_cell 4 = .ok (.imul, 1) := by decide +kernel
theorem dX7_cell_5 : decode cX7_cell 5 = .ok (.iload_n 1, 1) := by decide +kernel
theorem dX7_cell_6 : decode cX7_cell 6 = .ok (.iadd, 1) := by decide +kernel
theorem dX7_cell_7 : decode cX7_cell 7 = .ok (.imul, 1) := by decide +kernel
theorem dX7_cell_8 : decode cX7_cell 8 = .ok (.iload_n 2, 1) := by decide +kernel
theorem dX7_cell_9 : decode cX7_cell 9 = .ok (.iadd, 1) := by decide +kernel
theorem dX7_cell_10 : decode cX7_cell 10 = .ok (.ireturn, 1) := by decide +kernel
theorem dX7_till_0 : decode cX7_till 0 = .ok (.aload_n 0, 1) := by decide +kernel
theorem dX7_till_1 : decode cX7_till 1 = .ok (.iconst 0, 1) := by decide +kernel
theorem dX7_till_2 : decode cX7_till 2 = .ok (.putfield 90, 3) := by decide +kernel
theorem dX7_till_5 : decode cX7_till 5 = .ok (.aload_n 0, 1) := by decide +kernel
theorem dX7_till_6 : decode cX7_till 6 = .ok (.getfield 34, 3) := by decide +kernel
theorem dX7_till_9 : decode cX7_till 9 = .ok (.iconst 0, 1) := by decide +kernel
theorem dX7_till_10 : decode cX7_till 10 = .ok (.iaload, 1) := by decide +kernel
theorem dX7_till_11 : decode cX7_till 11 = .ok (.iconst 4, 1) := by decide +kernel
theorem dX7_till_12 : decode cX7_till 12 = .ok (.if_icmp .ne 5, 3) := by decide +kernel
theorem dX7_till_15 : decode cX7_till 15 = .ok (.iconst (-1), 1) := by decide +kernel
theorem dX7_till_16 : decode cX7_till 16 = .ok (.ireturn, 1) := by decide +kernel
theorem dX7_till_17 : decode cX7_till 17 = .ok (.aload_n 0, 1) := by decide +kernel
theorem dX7_till_18 : decode cX7_till 18 = .ok (.getfield 34, 3) := by decide +kernel
theorem dX7_till_21 : decode cX7_till 21 = .ok (.iconst 0, 1) := by decide +kernel
theorem dX7_till_22 : decode cX7_till 22 = .ok (.iaload, 1) := by decide +kernel
theorem dX7_till_23 : decode cX7_till 23 = .ok (.istore_n 1, 1) := by decide +kernel
theorem dX7_till_24 : decode cX7_till 24 = .ok (.aload_n 0, 1) := by decide +kernel
theorem dX7_till_25 : decode cX7_till 25 = .ok (.getfield 34, 3) := by decide +kernel
theorem dX7_till_28 : decode cX7_till 28 = .ok (.iconst 0, 1) := by decide +kernel
theorem dX7_till_29 : decode cX7_till 29 = .ok (.dup2, 1) := by decide +kernel
theorem dX7_till_30 : decode cX7_till 30 = .ok (.iaload, 1) := by decide +kernel
theorem dX7_till_31 : decode cX7_till 31 = .ok (.iconst 1, 1) := by decide +kernel
theorem dX7_till_32 : decode cX7_till 32 = .ok (.iadd, 1) := by decide +kernel
theorem dX7_till_33 : decode cX7_till 33 = .ok (.iastore, 1) := by decide +kernel
theorem dX7_till_34 : decode cX7_till 34 = .ok (.aload_n 0, 1) := by decide +kernel
theorem dX7_till_35 : decode cX7_till 35 = .ok (.getfield 37, 3) := by decide +kernel
theorem dX7_till_38 : decode cX7_till 38 = .ok (.iload_n 1, 1) := by decide +kernel
theorem dX7_till_39 : decode cX7_till 39 = .ok (.iconst 0, 1) := by decide +kernel
theorem dX7_till_40 : decode cX7_till 40 = .ok (.iastore, 1) := by decide +kernel
theorem dX7_till_41 : decode cX7_till 41 = .ok (.aload_n 0, 1) := by decide +kernel
theorem dX7_till_42 : decode cX7_till 42 = .ok (.getfield 40, 3) := by decide +kernel
theorem dX7_till_45 : decode cX7_till 45 = .ok (.iload_n 1, 1) := by decide +kernel
theorem dX7_till_46 : decode cX7_till 46 = .ok (.lconst 0, 1) := by decide +kernel
theorem dX7_till_47 : decode cX7_till 47 = .ok (.lastore, 1) := by decide +kernel
theorem dX7_till_48 : decode cX7_till 48 = .ok (.aload_n 0, 1) := by decide +kernel
theorem dX7_till_49 : decode cX7_till 49 = .ok (.getfield 44, 3) := by decide +kernel
theorem dX7_till_52 : decode cX7_till 52 = .ok (.iload_n 1, 1) := by decide +kernel
theorem dX7_till_53 : decode cX7_till 53 = .ok (.lconst 0, 1) := by decide +kernel
theorem dX7_till_54 : decode cX7_till 54 = .ok (.lastore, 1) := by decide +kernel
theorem dX7_till_55 : decode cX7_till 55 = .ok (.aload_n 0, 1) := by decide +kernel
theorem dX7_till_56 : decode cX7_till 56 = .ok (.getfield 47, 3) := by decide +kernel
theorem dX7_till_59 : decode cX7_till 59 = .ok (.iload_n 1, 1) := by decide +kernel
theorem dX7_till_60 : decode cX7_till 60 = .ok (.iconst 0, 1) := by decide +kernel
theorem dX7_till_61 : decode cX7_till 61 = .ok (.iastore, 1) := by decide +kernel
theorem dX7_till_62 : decode cX7_till 62 = .ok (.iconst 0, 1) := by decide +kernel
theorem dX7_till_63 : decode cX7_till 63 = .ok (.istore_n 2, 1) := by decide +kernel
theorem dX7_till_64 : decode cX7_till 64 = .ok (.iload_n 2, 1) := by decide +kernel
theorem dX7_till_65 : decode cX7_till 65 = .ok (.bipush 8, 2) := by decide +kernel
theorem dX7_till_67 : decode cX7_till 67 = .ok (.if_icmp .ge 45, 3) := by decide +kernel
theorem dX7_till_70 : decode cX7_till 70 = .ok (.aload_n 0, 1) := by decide +kernel
theorem dX7_till_71 : decode cX7_till 71 = .ok (.getfield 50, 3) := by decide +kernel
theorem dX7_till_74 : decode cX7_till 74 = .ok (.iload_n 1, 1) := by decide +kernel
theorem dX7_till_75 : decode cX7_till 75 = .ok (.iconst 0, 1) := by decide +kernel
theorem dX7_till_76 : decode cX7_till 76 = .ok (.iload_n 2, 1) := by decide +kernel
theorem dX7_till_77 : decode cX7_till 77 = .ok (.invokestatic 134, 3) := by decide +kernel
theorem dX7_till_80 : decode cX7_till 80 = .ok (.iconst 0, 1) := by decide +kernel
theorem dX7_till_81 : decode cX7_till 81 = .ok (.iastore, 1) := by decide +kernel
theorem dX7_till_82 : decode cX7_till 82 = .ok (.aload_n 0, 1) := by decide +kernel
theorem dX7_till_83 : decode cX7_till 83 = .ok (.getfield 50, 3) := by decide +kernel
theorem dX7_till_86 : decode cX7_till 86 = .ok (.iload_n 1, 1) := by decide +kernel
theorem dX7_till_87 : decode cX7_till 87 = .ok (.iconst 1, 1) := by decide +kernel
theorem dX7_till_88 : decode cX7_till 88 = .ok (.iload_n 2, 1) := by decide +kernel
theorem dX7_till_89 : decode cX7_till 89 = .ok (.invokestatic 134, 3) := by decide +kernel
theorem dX7_till_92 : decode cX7_till 92 = .ok (.iconst 0, 1) := by decide +kernel
theorem dX7_till_93 : decode cX7_till 93 = .ok (.iastore, 1) := by decide +kernel
theorem dX7_till_94 : decode cX7_till 94 = .ok (.aload_n 0, 1) := by decide +kernel
theorem dX7_till_95 : decode cX7_till 95 = .ok (.getfield 53, 3) := by decide +kernel
theorem dX7_till_98 : decode cX7_till 98 = .ok (.bipush 8, 2) := by decide +kernel
theorem dX7_till_100 : decode cX7_till 100 = .ok (.iload_n 1, 1) := by decide +kernel
theorem dX7_till_101 : decode cX7_till 101 = .ok (.imul, 1) := by decide +kernel
theorem dX7_till_102 : decode cX7_till 102 = .ok (.iload_n 2, 1) := by decide +kernel
theorem dX7_till_103 : decode cX7_till 103 = .ok (.iadd, 1) := by decide +kernel
theorem dX7_till_104 : decode cX7_till 104 = .ok (.iconst 0, 1) := by decide +kernel
theorem dX7_till_105 : decode cX7_till 105 = .ok (.iastore, 1) := by decide +kernel
theorem dX7_till_106 : decode cX7_till 106 = .ok (.iinc 2 1, 3) := by decide +kernel
theorem dX7_till_109 : decode cX7_till 109 = .ok (.goto (-45), 3) := by decide +kernel
theorem dX7_till_112 : decode cX7_till 112 = .ok (.iload_n 1, 1) := by decide +kernel
theorem dX7_till_113 : decode cX7_till 113 = .ok (.ireturn, 1) := by decide +kernel
theorem dX7_put_0 : decode cX7_put 0 = .ok (.aload_n 0, 1) := by decide +kernel
theorem dX7_put_1 : decode cX7_put 1 = .ok (.iconst 0, 1) := by decide +kernel
theorem dX7_put_2 : decode cX7_put 2 = .ok (.putfield 90, 3) := by decide +kernel
theorem dX7_put_5 : decode cX7_put 5 = .ok (.aload_n 0, 1) := by decide +kernel
theorem dX7_put_6 : decode cX7_put 6 = .ok (.iload_n 1, 1) := by decide +kernel
theorem dX7_put_7 : decode cX7_put 7 = .ok (.invokevirtual 138, 3) := by decide +kernel
theorem dX7_put_10 : decode cX7_put 10 = .ok (.ifCond .eq 12, 3) := by decide +kernel
theorem dX7_put_13 : decode cX7_put 13 = .ok (.aload_n 0, 1) := by decide +kernel
theorem dX7_put_14 : decode cX7_put 14 = .ok (.iload_n 2, 1) := by decide +kernel
theorem dX7_put_15 : decode cX7_put 15 = .ok (.iload_n 3, 1) := by decide +kernel
theorem dX7_put_16 : decode cX7_put 16 = .ok (.invokevirtual 121, 3) := by decide +kernel
theorem dX7_put_19 : decode cX7_put 19 = .ok (.ifCond .ne 5, 3) := by decide +kernel
theorem dX7_put_22 : decode cX7_put 22 = .ok (.iconst (-1), 1) := by decide +kernel
theorem dX7_put_23 : decode cX7_put 23 = .ok (.ireturn, 1) := by decide +kernel
theorem dX7_put_24 : decode cX7_put 24 = .ok (.iload_n 1, 1) := by decide +kernel
theorem dX7_put_25 : decode cX7_put 25 = .ok (.iload_n 2, 1) := by decide +kernel
theorem dX7_put_26 : decode cX7_put 26 = .ok (.iload_n 3, 1) := by decide +kernel
theorem dX7_put_27 : decode cX7_put 27 = .ok (.invokestatic 134, 3) := by decide +kernel
theorem dX7_put_30 : decode cX7_put 30 = .ok (.istore 5, 2) := by decide +kernel
theorem dX7_put_32 : decode cX7_put 32 = .ok (.iload 4, 2) := by decide +kernel
theorem dX7_put_34 : decode cX7_put 34 = .ok (.aload_n 0, 1) := by decide +kernel
theorem dX7_put_35 : decode cX7_put 35 = .ok (.getfield 50, 3) := by decide +kernel
theorem dX7_put_38 : decode cX7_put 38 = .ok (.iload 5, 2) := by decide +kernel
theorem dX7_put_40 : decode cX7_put 40 = .ok (.iaload, 1) := by decide +kernel
theorem dX7_put_41 : decode cX7_put 41 = .ok (.ineg, 1) := by decide +kernel
theorem dX7_put_42 : decode cX7_put 42 = .ok (.sipush 1000, 3) := by decide +kernel
theorem dX7_put_45 : decode cX7_put 45 = .ok (.aload_n 0, 1) := by decide +kernel
theorem dX7_put_46 : decode cX7_put 46 = .ok (.getfield 50, 3) := by decide +kernel
theorem dX7_put_49 : decode cX7_put 49 = .ok (.iload 5, 2) := by decide +kernel
theorem dX7_put_51 : decode cX7_put 51 = .ok (.iaload, 1) := by decide +kernel
theorem dX7_put_52 : decode cX7_put 52 = .ok (.isub, 1) := by decide +kernel
theorem dX7_put_53 : decode cX7_put 53 = .ok (.invokestatic 98, 3) := by decide +kernel
theorem dX7_put_56 : decode cX7_put 56 = .ok (.ifCond .ne 5, 3) := by decide +kernel
theorem dX7_put_59 : decode cX7_put 59 = .ok (.iconst (-1), 1) := by decide +kernel
theorem dX7_put_60 : decode cX7_put 60 = .ok (.ireturn, 1) := by decide +kernel
theorem dX7_put_61 : decode cX7_put 61 = .ok (.aload_n 0, 1) := by decide +kernel
theorem dX7_put_62 : decode cX7_put 62 = .ok (.getfield 50, 3) := by decide +kernel
theorem dX7_put_65 : decode cX7_put 65 = .ok (.iload 5, 2) := by decide +kernel
theorem dX7_put_67 : decode cX7_put 67 = .ok (.dup2, 1) := by decide +kernel
theorem dX7_put_68 : decode cX7_put 68 = .ok (.iaload, 1) := by decide +kernel
theorem dX7_put_69 : decode cX7_put 69 = .ok (.iload 4, 2) := by decide +kernel
theorem dX7_put_71 : decode cX7_put 71 = .ok (.iadd, 1) := by decide +kernel
theorem dX7_put_72 : decode cX7_put 72 = .ok (.iastore, 1) := by decide +kernel
theorem dX7_put_73 : decode cX7_put 73 = .ok (.aload_n 0, 1) := by decide +kernel
theorem dX7_put_74 : decode cX7_put 74 = .ok (.getfield 50, 3) := by decide +kernel
theorem dX7_put_77 : decode cX7_put 77 = .ok (.iload 5, 2) := by decide +kernel
theorem dX7_put_79 : decode cX7_put 79 = .ok (.iaload, 1) := by decide +kernel
theorem dX7_put_80 : decode cX7_put 80 = .ok (.ireturn, 1) := by decide +kernel
theorem dX7_over_0 : decode cX7_over 0 = .ok (.iload 4, 2) := by decide +kernel
theorem dX7_over_2 : decode cX7_over 2 = .ok (.aload_n 0, 1) := by decide +kernel
theorem dX7_over_3 : decode cX7_over 3 = .ok (.getfield 13, 3) := by decide +kernel
theorem dX7_over_6 : decode cX7_over 6 = .ok (.bipush 8, 2) := by decide +kernel
theorem dX7_over_8 : decode cX7_over 8 = .ok (.iload_n 2, 1) := by decide +kernel
theorem dX7_over_9 : decode cX7_over 9 = .ok (.imul, 1) := by decide +kernel
theorem dX7_over_10 : decode cX7_over 10 = .ok (.iload_n 3, 1) := by decide +kernel
theorem dX7_over_11 : decode cX7_over 11 = .ok (.iadd, 1) := by decide +kernel
theorem dX7_over_12 : decode cX7_over 12 = .ok (.iaload, 1) := by decide +kernel
theorem dX7_over_13 : decode cX7_over 13 = .ok (.imul, 1) := by decide +kernel
theorem dX7_over_14 : decode cX7_over 14 = .ok (.aload_n 0, 1) := by decide +kernel
theorem dX7_over_15 : decode cX7_over 15 = .ok (.getfield 16, 3) := by decide +kernel
theorem dX7_over_18 : decode cX7_over 18 = .ok (.iload_n 2, 1) := by decide +kernel
theorem dX7_over_19 : decode cX7_over 19 = .ok (.iaload, 1) := by decide +kernel
theorem dX7_over_20 : decode cX7_over 20 = .ok (.imul, 1) := by decide +kernel
theorem dX7_over_21 : decode cX7_over 21 = .ok (.iload_n 1, 1) := by decide +kernel
theorem dX7_over_22 : decode cX7_over 22 = .ok (.aload_n 0, 1) := by decide +kernel
theorem dX7_over_23 : decode cX7_over 23 = .ok (.getfield 16, 3) := by decide +kernel
theorem dX7_over_26 : decode cX7_over 26 = .ok (.iconst 1, 1) := by decide +kernel
theorem dX7_over_27 : decode cX7_over 27 = .ok (.iaload, 1) := by decide +kernel
theorem dX7_over_28 : decode cX7_over 28 = .ok (.imul, 1) := by decide +kernel
theorem dX7_over_29 : decode cX7_over 29 = .ok (.isub, 1) := by decide +kernel
theorem dX7_over_30 : decode cX7_over 30 = .ok (.ireturn, 1) := by decide +kernel
theorem dX7_isSale_0 : decode cX7_isSale 0 = .ok (.aload_n 0, 1) := by decide +kernel
theorem dX7_isSale_1 : decode cX7_isSale 1 = .ok (.iload_n 1, 1) := by decide +kernel
theorem dX7_isSale_2 : decode cX7_isSale 2 = .ok (.invokevirtual 138, 3) := by decide +kernel
theorem dX7_isSale_5 : decode cX7_isSale 5 = .ok (.ifCond .eq 39, 3) := by decide +kernel
theorem dX7_isSale_8 : decode cX7_isSale 8 = .ok (.iload_n 2, 1) := by decide +kernel
theorem dX7_isSale_9 : decode cX7_isSale 9 = .ok (.iconst 1, 1) := by decide +kernel
theorem dX7_isSale_10 : decode cX7_isSale 10 = .ok (.sipush 2000, 3) := by decide +kernel
theorem dX7_isSale_13 : decode cX7_isSale 13 = .ok (.invokestatic 98, 3) := by decide +kernel
theorem dX7_isSale_16 : decode cX7_isSale 16 = .ok (.ifCond .eq 28, 3) := by decide +kernel
theorem dX7_isSale_19 : decode cX7_isSale 19 = .ok (.aload_n 0, 1) := by decide +kernel
theorem dX7_isSale_20 : decode cX7_isSale 20 = .ok (.iload_n 3, 1) := by decide +kernel
theorem dX7_isSale_21 : decode cX7_isSale 21 = .ok (.iload 4, 2) := by decide +kernel
theorem dX7_isSale_23 : decode cX7_isSale 23 = .ok (.invokevirtual 121, 3) := by decide +kernel
theorem dX7_isSale_26 : decode cX7_isSale 26 = .ok (.ifCond .eq 18, 3) := by decide +kernel
theorem dX7_isSale_29 : decode cX7_isSale 29 = .ok (.iload 5, 2) := by decide +kernel
theorem dX7_isSale_31 : decode cX7_isSale 31 = .ok (.iconst 1, 1) := by decide +kernel
theorem dX7_isSale_32 : decode cX7_isSale 32 = .ok (.bipush 50, 2) := by decide +kernel
theorem dX7_isSale_34 : decode cX7_isSale 34 = .ok (.invokestatic 98, 3) := by decide +kernel
theorem dX7_isSale_37 : decode cX7_isSale 37 = .ok (.ifCond .eq 7, 3) := by decide +kernel
theorem dX7_isSale_40 : decode cX7_isSale 40 = .ok (.iconst 1, 1) := by decide +kernel
theorem dX7_isSale_41 : decode cX7_isSale 41 = .ok (.goto 4, 3) := by decide +kernel
theorem dX7_isSale_44 : decode cX7_isSale 44 = .ok (.iconst 0, 1) := by decide +kernel
theorem dX7_isSale_45 : decode cX7_isSale 45 = .ok (.ireturn, 1) := by decide +kernel
theorem dX7_sale_0 : decode cX7_sale 0 = .ok (.aload_n 0, 1) := by decide +kernel
theorem dX7_sale_1 : decode cX7_sale 1 = .ok (.iconst 0, 1) := by decide +kernel
theorem dX7_sale_2 : decode cX7_sale 2 = .ok (.putfield 90, 3) := by decide +kernel
theorem dX7_sale_5 : decode cX7_sale 5 = .ok (.aload_n 0, 1) := by decide +kernel
theorem dX7_sale_6 : decode cX7_sale 6 = .ok (.iload_n 1, 1) := by decide +kernel
theorem dX7_sale_7 : decode cX7_sale 7 = .ok (.iload_n 2, 1) := by decide +kernel
theorem dX7_sale_8 : decode cX7_sale 8 = .ok (.iload_n 3, 1) := by decide +kernel
theorem dX7_sale_9 : decode cX7_sale 9 = .ok (.iload 4, 2) := by decide +kernel
theorem dX7_sale_11 : decode cX7_sale 11 = .ok (.iload 5, 2) := by decide +kernel
theorem dX7_sale_13 : decode cX7_sale 13 = .ok (.invokevirtual 141, 3) := by decide +kernel
theorem dX7_sale_16 : decode cX7_sale 16 = .ok (.ifCond .ne 5, 3) := by decide +kernel
theorem dX7_sale_19 : decode cX7_sale 19 = .ok (.iconst (-1), 1) := by decide +kernel
theorem dX7_sale_20 : decode cX7_sale 20 = .ok (.ireturn, 1) := by decide +kernel
theorem dX7_sale_21 : decode cX7_sale 21 = .ok (.aload_n 0, 1) := by decide +kernel
theorem dX7_sale_22 : decode cX7_sale 22 = .ok (.iload_n 2, 1) := by decide +kernel
theorem dX7_sale_23 : decode cX7_sale 23 = .ok (.iload_n 3, 1) := by decide +kernel
theorem dX7_sale_24 : decode cX7_sale 24 = .ok (.iload 4, 2) := by decide +kernel
theorem dX7_sale_26 : decode cX7_sale 26 = .ok (.iload 5, 2) := by decide +kernel
theorem dX7_sale_28 : decode cX7_sale 28 = .ok (.invokevirtual 145, 3) := by decide +kernel
theorem dX7_sale_31 : decode cX7_sale 31 = .ok (.istore 6, 2) := by decide +kernel
theorem dX7_sale_33 : decode cX7_sale 33 = .ok (.iload_n 1, 1) := by decide +kernel
theorem dX7_sale_34 : decode cX7_sale 34 = .ok (.iload_n 3, 1) := by decide +kernel
theorem dX7_sale_35 : decode cX7_sale 35 = .ok (.iload 4, 2) := by decide +kernel
theorem dX7_sale_37 : decode cX7_sale 37 = .ok (.invokestatic 134, 3) := by decide +kernel
theorem dX7_sale_40 : decode cX7_sale 40 = .ok (.istore 7, 2) := by decide +kernel
theorem dX7_sale_42 : decode cX7_sale 42 = .ok (.iload 6, 2) := by decide +kernel
theorem dX7_sale_44 : decode cX7_sale 44 = .ok (.aload_n 0, 1) := by decide +kernel
theorem dX7_sale_45 : decode cX7_sale 45 = .ok (.getfield 16, 3) := by decide +kernel
theorem dX7_sale_48 : decode cX7_sale 48 = .ok (.iconst 1, 1) := by decide +kernel
theorem dX7_sale_49 : decode cX7_sale 49 = .ok (.iaload, 1) := by decide +kernel
theorem dX7_sale_50 : decode cX7_sale 50 = .ok (.idiv, 1) := by decide +kernel
theorem dX7_sale_51 : decode cX7_sale 51 = .ok (.istore 8, 2) := by decide +kernel
theorem dX7_sale_53 : decode cX7_sale 53 = .ok (.iload 6, 2) := by decide +kernel
theorem dX7_sale_55 : decode cX7_sale 55 = .ok (.ifCond .lt 27, 3) := by decide +kernel
theorem dX7_sale_58 : decode cX7_sale 58 = .ok (.iload 8, 2) := by decide +kernel
theorem dX7_sale_60 : decode cX7_sale 60 = .ok (.sipush 2000, 3) := by decide +kernel
theorem dX7_sale_63 : decode cX7_sale 63 = .ok (.if_icmp .gt 19, 3) := by decide +kernel
theorem dX7_sale_66 : decode cX7_sale 66 = .ok (.aload_n 0, 1) := by decide +kernel
theorem dX7_sale_67 : decode cX7_sale 67 = .ok (.getfield 50, 3) := by decide +kernel
theorem dX7_sale_70 : decode cX7_sale 70 = .ok (.iload 7, 2) := by decide +kernel
theorem dX7_sale_72 : decode cX7_sale 72 = .ok (.iaload, 1) := by decide +kernel
theorem dX7_sale_73 : decode cX7_sale 73 = .ok (.iload 5, 2) := by decide +kernel
theorem dX7_sale_75 : decode cX7_sale 75 = .ok (.iadd, 1) := by decide +kernel
theorem dX7_sale_76 : decode cX7_sale 76 = .ok (.sipush 1000, 3) := by decide +kernel
theorem dX7_sale_79 : decode cX7_sale 79 = .ok (.if_icmp .le 5, 3) := by decide +kernel
theorem dX7_sale_82 : decode cX7_sale 82 = .ok (.iconst (-1), 1) := by decide +kernel
theorem dX7_sale_83 : decode cX7_sale 83 = .ok (.ireturn, 1) := by decide +kernel
theorem dX7_sale_84 : decode cX7_sale 84 = .ok (.iconst 0, 1) := by decide +kernel
theorem dX7_sale_85 : decode cX7_sale 85 = .ok (.istore 9, 2) := by decide +kernel
theorem dX7_sale_87 : decode cX7_sale 87 = .ok (.iload 9, 2) := by decide +kernel
theorem dX7_sale_89 : decode cX7_sale 89 = .ok (.bipush 8, 2) := by decide +kernel
theorem dX7_sale_91 : decode cX7_sale 91 = .ok (.if_icmp .ge 47, 3) := by decide +kernel
theorem dX7_sale_94 : decode cX7_sale 94 = .ok (.aload_n 0, 1) := by decide +kernel
theorem dX7_sale_95 : decode cX7_sale 95 = .ok (.getfield 74, 3) := by decide +kernel
theorem dX7_sale_98 : decode cX7_sale 98 = .ok (.iload 9, 2) := by decide +kernel
theorem dX7_sale_100 : decode cX7_sale 100 = .ok (.aload_n 0, 1) := by decide +kernel
theorem dX7_sale_101 : decode cX7_sale 101 = .ok (.getfield 50, 3) := by decide +kernel
theorem dX7_sale_104 : decode cX7_sale 104 = .ok (.iload_n 1, 1) := by decide +kernel
theorem dX7_sale_105 : decode cX7_sale 105 = .ok (.iconst 1, 1) := by decide +kernel
theorem dX7_sale_106 : decode cX7_sale 106 = .ok (.iload 9, 2) := by decide +kernel
theorem dX7_sale_108 : decode cX7_sale 108 = .ok (.invokestatic 134, 3) := by decide +kernel
theorem dX7_sale_111 : decode cX7_sale 111 = .ok (.iaload, 1) := by decide +kernel
theorem dX7_sale_112 : decode cX7_sale 112 = .ok (.iload_n 3, 1) := by decide +kernel
theorem dX7_sale_113 : decode cX7_sale 113 = .ok (.iconst 1, 1) := by decide +kernel
theorem dX7_sale_114 : decode cX7_sale 114 = .ok (.if_icmp .ne 15, 3) := by decide +kernel
theorem dX7_sale_117 : decode cX7_sale 117 = .ok (.iload 9, 2) := by decide +kernel
theorem dX7_sale_119 : decode cX7_sale 119 = .ok (.iload 4, 2) := by decide +kernel
theorem dX7_sale_121 : decode cX7_sale 121 = .ok (.if_icmp .ne 8, 3) := by decide +kernel
theorem dX7_sale_124 : decode cX7_sale 124 = .ok (.iload 5, 2) := by decide +kernel
theorem dX7_sale_126 : decode cX7_sale 126 = .ok (.goto 4, 3) := by decide +kernel
theorem dX7_sale_129 : decode cX7_sale 129 = .ok (.iconst 0, 1) := by decide +kernel
theorem dX7_sale_130 : decode cX7_sale 130 = .ok (.iadd, 1) := by decide +kernel
theorem dX7_sale_131 : decode cX7_sale 131 = .ok (.iastore, 1) := by decide +kernel
theorem dX7_sale_132 : decode cX7_sale 132 = .ok (.iinc 9 1, 3) := by decide +kernel
theorem dX7_sale_135 : decode cX7_sale 135 = .ok (.goto (-48), 3) := by decide +kernel
theorem dX7_sale_138 : decode cX7_sale 138 = .ok (.aload_n 0, 1) := by decide +kernel
theorem dX7_sale_139 : decode cX7_sale 139 = .ok (.iconst 1, 1) := by decide +kernel
theorem dX7_sale_140 : decode cX7_sale 140 = .ok (.iload 8, 2) := by decide +kernel
theorem dX7_sale_142 : decode cX7_sale 142 = .ok (.invokevirtual 128, 3) := by decide +kernel
theorem dX7_sale_145 : decode cX7_sale 145 = .ok (.iconst (-1), 1) := by decide +kernel
theorem dX7_sale_146 : decode cX7_sale 146 = .ok (.if_icmp .ne 5, 3) := by decide +kernel
theorem dX7_sale_149 : decode cX7_sale 149 = .ok (.iconst (-1), 1) := by decide +kernel
theorem dX7_sale_150 : decode cX7_sale 150 = .ok (.ireturn, 1) := by decide +kernel
theorem dX7_sale_151 : decode cX7_sale 151 = .ok (.aload_n 0, 1) := by decide +kernel
theorem dX7_sale_152 : decode cX7_sale 152 = .ok (.getfield 50, 3) := by decide +kernel
theorem dX7_sale_155 : decode cX7_sale 155 = .ok (.iload 7, 2) := by decide +kernel
theorem dX7_sale_157 : decode cX7_sale 157 = .ok (.dup2, 1) := by decide +kernel
theorem dX7_sale_158 : decode cX7_sale 158 = .ok (.iaload, 1) := by decide +kernel
theorem dX7_sale_159 : decode cX7_sale 159 = .ok (.iload 5, 2) := by decide +kernel
theorem dX7_sale_161 : decode cX7_sale 161 = .ok (.iadd, 1) := by decide +kernel
theorem dX7_sale_162 : decode cX7_sale 162 = .ok (.iastore, 1) := by decide +kernel
theorem dX7_sale_163 : decode cX7_sale 163 = .ok (.iconst 0, 1) := by decide +kernel
theorem dX7_sale_164 : decode cX7_sale 164 = .ok (.istore 9, 2) := by decide +kernel
theorem dX7_sale_166 : decode cX7_sale 166 = .ok (.iload 9, 2) := by decide +kernel
theorem dX7_sale_168 : decode cX7_sale 168 = .ok (.bipush 8, 2) := by decide +kernel
theorem dX7_sale_170 : decode cX7_sale 170 = .ok (.if_icmp .ge 64, 3) := by decide +kernel
theorem dX7_sale_173 : decode cX7_sale 173 = .ok (.iload 9, 2) := by decide +kernel
theorem dX7_sale_175 : decode cX7_sale 175 = .ok (.aload_n 0, 1) := by decide +kernel
theorem dX7_sale_176 : decode cX7_sale 176 = .ok (.getfield 7, 3) := by decide +kernel
theorem dX7_sale_179 : decode cX7_sale 179 = .ok (.iconst 1, 1) := by decide +kernel
theorem dX7_sale_180 : decode cX7_sale 180 = .ok (.iaload, 1) := by decide +kernel
theorem dX7_sale_181 : decode cX7_sale 181 = .ok (.if_icmp .ge 13, 3) := by decide +kernel
theorem dX7_sale_184 : decode cX7_sale 184 = .ok (.aload_n 0, 1) := by decide +kernel
theorem dX7_sale_185 : decode cX7_sale 185 = .ok (.getfield 71, 3) := by decide +kernel
theorem dX7_sale_188 : decode cX7_sale 188 = .ok (.iload 9, 2) := by decide +kernel
theorem dX7_sale_190 : decode cX7_sale 190 = .ok (.iaload, 1) := by decide +kernel
theorem dX7_sale_191 : decode cX7_sale 191 = .ok (.goto 4, 3) := by decide +kernel
theorem dX7_sale_194 : decode cX7_sale 194 = .ok (.iconst 0, 1) := by decide +kernel
theorem dX7_sale_195 : decode cX7_sale 195 = .ok (.istore 10, 2) := by decide +kernel
theorem dX7_sale_197 : decode cX7_sale 197 = .ok (.aload_n 0, 1) := by decide +kernel
theorem dX7_sale_198 : decode cX7_sale 198 = .ok (.getfield 50, 3) := by decide +kernel
theorem dX7_sale_201 : decode cX7_sale 201 = .ok (.iload_n 1, 1) := by decide +kernel
theorem dX7_sale_202 : decode cX7_sale 202 = .ok (.iconst 1, 1) := by decide +kernel
theorem dX7_sale_203 : decode cX7_sale 203 = .ok (.iload 9, 2) := by decide +kernel
theorem dX7_sale_205 : decode cX7_sale 205 = .ok (.invokestatic 134, 3) := by decide +kernel
theorem dX7_sale_208 : decode cX7_sale 208 = .ok (.dup2, 1) := by decide +kernel
theorem dX7_sale_209 : decode cX7_sale 209 = .ok (.iaload, 1) := by decide +kernel
theorem dX7_sale_210 : decode cX7_sale 210 = .ok (.iload 10, 2) := by decide +kernel
theorem dX7_sale_212 : decode cX7_sale 212 = .ok (.isub, 1) := by decide +kernel
theorem dX7_sale_213 : decode cX7_sale 213 = .ok (.iastore, 1) := by decide +kernel
theorem dX7_sale_214 : decode cX7_sale 214 = .ok (.aload_n 0, 1) := by decide +kernel
theorem dX7_sale_215 : decode cX7_sale 215 = .ok (.getfield 53, 3) := by decide +kernel
theorem dX7_sale_218 : decode cX7_sale 218 = .ok (.bipush 8, 2) := by decide +kernel
theorem dX7_sale_220 : decode cX7_sale 220 = .ok (.iload_n 1, 1) := by decide +kernel
theorem dX7_sale_221 : decode cX7_sale 221 = .ok (.imul, 1) := by decide +kernel
theorem dX7_sale_222 : decode cX7_sale 222 = .ok (.iload 9, 2) := by decide +kernel
theorem dX7_sale_224 : decode cX7_sale 224 = .ok (.iadd, 1) := by decide +kernel
theorem dX7_sale_225 : decode cX7_sale 225 = .ok (.iload 10, 2) := by decide +kernel
theorem dX7_sale_227 : decode cX7_sale 227 = .ok (.iastore, 1) := by decide +kernel
theorem dX7_sale_228 : decode cX7_sale 228 = .ok (.iinc 9 1, 3) := by decide +kernel
theorem dX7_sale_231 : decode cX7_sale 231 = .ok (.goto (-65), 3) := by decide +kernel
theorem dX7_sale_234 : decode cX7_sale 234 = .ok (.aload_n 0, 1) := by decide +kernel
theorem dX7_sale_235 : decode cX7_sale 235 = .ok (.getfield 19, 3) := by decide +kernel
theorem dX7_sale_238 : decode cX7_sale 238 = .ok (.iconst 0, 1) := by decide +kernel
theorem dX7_sale_239 : decode cX7_sale 239 = .ok (.dup2, 1) := by decide +kernel
theorem dX7_sale_240 : decode cX7_sale 240 = .ok (.iaload, 1) := by decide +kernel
theorem dX7_sale_241 : decode cX7_sale 241 = .ok (.iconst 1, 1) := by decide +kernel
theorem dX7_sale_242 : decode cX7_sale 242 = .ok (.iadd, 1) := by decide +kernel
theorem dX7_sale_243 : decode cX7_sale 243 = .ok (.iastore, 1) := by decide +kernel
theorem dX7_sale_244 : decode cX7_sale 244 = .ok (.aload_n 0, 1) := by decide +kernel
theorem dX7_sale_245 : decode cX7_sale 245 = .ok (.getfield 37, 3) := by decide +kernel
theorem dX7_sale_248 : decode cX7_sale 248 = .ok (.iload_n 1, 1) := by decide +kernel
theorem dX7_sale_249 : decode cX7_sale 249 = .ok (.dup2, 1) := by decide +kernel
theorem dX7_sale_250 : decode cX7_sale 250 = .ok (.iaload, 1) := by decide +kernel
theorem dX7_sale_251 : decode cX7_sale 251 = .ok (.iconst 1, 1) := by decide +kernel
theorem dX7_sale_252 : decode cX7_sale 252 = .ok (.iadd, 1) := by decide +kernel
theorem dX7_sale_253 : decode cX7_sale 253 = .ok (.iastore, 1) := by decide +kernel
theorem dX7_sale_254 : decode cX7_sale 254 = .ok (.aload_n 0, 1) := by decide +kernel
theorem dX7_sale_255 : decode cX7_sale 255 = .ok (.getfield 40, 3) := by decide +kernel
theorem dX7_sale_258 : decode cX7_sale 258 = .ok (.iload_n 1, 1) := by decide +kernel
theorem dX7_sale_259 : decode cX7_sale 259 = .ok (.dup2, 1) := by decide +kernel
theorem dX7_sale_260 : decode cX7_sale 260 = .ok (.laload, 1) := by decide +kernel
theorem dX7_sale_261 : decode cX7_sale 261 = .ok (.iload 6, 2) := by decide +kernel
theorem dX7_sale_263 : decode cX7_sale 263 = .ok (.aload_n 0, 1) := by decide +kernel
theorem dX7_sale_264 : decode cX7_sale 264 = .ok (.getfield 16, 3) := by decide +kernel
theorem dX7_sale_267 : decode cX7_sale 267 = .ok (.iconst 1, 1) := by decide +kernel
theorem dX7_sale_268 : decode cX7_sale 268 = .ok (.iaload, 1) := by decide +kernel
theorem dX7_sale_269 : decode cX7_sale 269 = .ok (.irem, 1) := by decide +kernel
theorem dX7_sale_270 : decode cX7_sale 270 = .ok (.i2l, 1) := by decide +kernel
theorem dX7_sale_271 : decode cX7_sale 271 = .ok (.ladd, 1) := by decide +kernel
theorem dX7_sale_272 : decode cX7_sale 272 = .ok (.lastore, 1) := by decide +kernel
theorem dX7_sale_273 : decode cX7_sale 273 = .ok (.aload_n 0, 1) := by decide +kernel
theorem dX7_sale_274 : decode cX7_sale 274 = .ok (.getfield 44, 3) := by decide +kernel
theorem dX7_sale_277 : decode cX7_sale 277 = .ok (.iload_n 1, 1) := by decide +kernel
theorem dX7_sale_278 : decode cX7_sale 278 = .ok (.dup2, 1) := by decide +kernel
theorem dX7_sale_279 : decode cX7_sale 279 = .ok (.laload, 1) := by decide +kernel
theorem dX7_sale_280 : decode cX7_sale 280 = .ok (.iload_n 2, 1) := by decide +kernel
theorem dX7_sale_281 : decode cX7_sale 281 = .ok (.aload_n 0, 1) := by decide +kernel
theorem dX7_sale_282 : decode cX7_sale 282 = .ok (.getfield 16, 3) := by decide +kernel
theorem dX7_sale_285 : decode cX7_sale 285 = .ok (.iconst 1, 1) := by decide +kernel
theorem dX7_sale_286 : decode cX7_sale 286 = .ok (.iaload, 1) := by decide +kernel
theorem dX7_sale_287 : decode cX7_sale 287 = .ok (.imul, 1) := by decide +kernel
theorem dX7_sale_288 : decode cX7_sale 288 = .ok (.i2l, 1) := by decide +kernel
theorem dX7_sale_289 : decode cX7_sale 289 = .ok (.ladd, 1) := by decide +kernel
theorem dX7_sale_290 : decode cX7_sale 290 = .ok (.lastore, 1) := by decide +kernel
theorem dX7_sale_291 : decode cX7_sale 291 = .ok (.iload 8, 2) := by decide +kernel
theorem dX7_sale_293 : decode cX7_sale 293 = .ok (.ireturn, 1) := by decide +kernel
theorem dX7_given_0 : decode cX7_given 0 = .ok (.aload_n 0, 1) := by decide +kernel
theorem dX7_given_1 : decode cX7_given 1 = .ok (.iconst 0, 1) := by decide +kernel
theorem dX7_given_2 : decode cX7_given 2 = .ok (.putfield 90, 3) := by decide +kernel
theorem dX7_given_5 : decode cX7_given 5 = .ok (.aload_n 0, 1) := by decide +kernel
theorem dX7_given_6 : decode cX7_given 6 = .ok (.iload_n 1, 1) := by decide +kernel
theorem dX7_given_7 : decode cX7_given 7 = .ok (.invokevirtual 138, 3) := by decide +kernel
theorem dX7_given_10 : decode cX7_given 10 = .ok (.ifCond .eq 35, 3) := by decide +kernel
theorem dX7_given_13 : decode cX7_given 13 = .ok (.aload_n 0, 1) := by decide +kernel
theorem dX7_given_14 : decode cX7_given 14 = .ok (.iconst 1, 1) := by decide +kernel
theorem dX7_given_15 : decode cX7_given 15 = .ok (.iload_n 2, 1) := by decide +kernel
theorem dX7_given_16 : decode cX7_given 16 = .ok (.invokevirtual 121, 3) := by decide +kernel
theorem dX7_given_19 : decode cX7_given 19 = .ok (.ifCond .eq 26, 3) := by decide +kernel
theorem dX7_given_22 : decode cX7_given 22 = .ok (.aload_n 0, 1) := by decide +kernel
theorem dX7_given_23 : decode cX7_given 23 = .ok (.getfield 37, 3) := by decide +kernel
theorem dX7_given_26 : decode cX7_given 26 = .ok (.iload_n 1, 1) := by decide +kernel
theorem dX7_given_27 : decode cX7_given 27 = .ok (.iaload, 1) := by decide +kernel
theorem dX7_given_28 : decode cX7_given 28 = .ok (.ifCond .le 17, 3) := by decide +kernel
theorem dX7_given_31 : decode cX7_given 31 = .ok (.aload_n 0, 1) := by decide +kernel
theorem dX7_given_32 : decode cX7_given 32 = .ok (.getfield 53, 3) := by decide +kernel
theorem dX7_given_35 : decode cX7_given 35 = .ok (.bipush 8, 2) := by decide +kernel
theorem dX7_given_37 : decode cX7_given 37 = .ok (.iload_n 1, 1) := by decide +kernel
theorem dX7_given_38 : decode cX7_given 38 = .ok (.imul, 1) := by decide +kernel
theorem dX7_given_39 : decode cX7_given 39 = .ok (.iload_n 2, 1) := by decide +kernel
theorem dX7_given_40 : decode cX7_given 40 = .ok (.iadd, 1) := by decide +kernel
theorem dX7_given_41 : decode cX7_given 41 = .ok (.iaload, 1) := by decide +kernel
theorem dX7_given_42 : decode cX7_given 42 = .ok (.goto 4, 3) := by decide +kernel
theorem dX7_given_45 : decode cX7_given 45 = .ok (.iconst (-1), 1) := by decide +kernel
theorem dX7_given_46 : decode cX7_given 46 = .ok (.ireturn, 1) := by decide +kernel
theorem dX7_parts_0 : decode cX7_parts 0 = .ok (.lconst 0, 1) := by decide +kernel
theorem dX7_parts_1 : decode cX7_parts 1 = .ok (.lstore_n 3, 1) := by decide +kernel
theorem dX7_parts_2 : decode cX7_parts 2 = .ok (.iconst 0, 1) := by decide +kernel
theorem dX7_parts_3 : decode cX7_parts 3 = .ok (.istore 5, 2) := by decide +kernel
theorem dX7_parts_5 : decode cX7_parts 5 = .ok (.iload 5, 2) := by decide +kernel
theorem dX7_parts_7 : decode cX7_parts 7 = .ok (.aload_n 0, 1) := by decide +kernel
theorem dX7_parts_8 : decode cX7_parts 8 = .ok (.getfield 7, 3) := by decide +kernel
theorem dX7_parts_11 : decode cX7_parts 11 = .ok (.iload_n 2, 1) := by decide +kernel
theorem dX7_parts_12 : decode cX7_parts 12 = .ok (.iaload, 1) := by decide +kernel
theorem dX7_parts_13 : decode cX7_parts 13 = .ok (.if_icmp .ge 47, 3) := by decide +kernel
theorem dX7_parts_16 : decode cX7_parts 16 = .ok (.lload_n 3, 1) := by decide +kernel
theorem dX7_parts_17 : decode cX7_parts 17 = .ok (.aload_n 0, 1) := by decide +kernel
theorem dX7_parts_18 : decode cX7_parts 18 = .ok (.getfield 50, 3) := by decide +kernel
theorem dX7_parts_21 : decode cX7_parts 21 = .ok (.iload_n 1, 1) := by decide +kernel
theorem dX7_parts_22 : decode cX7_parts 22 = .ok (.iload_n 2, 1) := by decide +kernel
theorem dX7_parts_23 : decode cX7_parts 23 = .ok (.iload 5, 2) := by decide +kernel
theorem dX7_parts_25 : decode cX7_parts 25 = .ok (.invokestatic 134, 3) := by decide +kernel
theorem dX7_parts_28 : decode cX7_parts 28 = .ok (.iaload, 1) := by decide +kernel
theorem dX7_parts_29 : decode cX7_parts 29 = .ok (.i2l, 1) := by decide +kernel
theorem dX7_parts_30 : decode cX7_parts 30 = .ok (.aload_n 0, 1) := by decide +kernel
theorem dX7_parts_31 : decode cX7_parts 31 = .ok (.getfield 13, 3) := by decide +kernel
theorem dX7_parts_34 : decode cX7_parts 34 = .ok (.bipush 8, 2) := by decide +kernel
theorem dX7_parts_36 : decode cX7_parts 36 = .ok (.iload_n 2, 1) := by decide +kernel
theorem dX7_parts_37 : decode cX7_parts 37 = .ok (.imul, 1) := by decide +kernel
theorem dX7_parts_38 : decode cX7_parts 38 = .ok (.iload 5, 2) := by decide +kernel
theorem dX7_parts_40 : decode cX7_parts 40 = .ok (.iadd, 1) := by decide +kernel
theorem dX7_parts_41 : decode cX7_parts 41 = .ok (.iaload, 1) := by decide +kernel
theorem dX7_parts_42 : decode cX7_parts 42 = .ok (.i2l, 1) := by decide +kernel
theorem dX7_parts_43 : decode cX7_parts 43 = .ok (.lmul, 1) := by decide +kernel
theorem dX7_parts_44 : decode cX7_parts 44 = .ok (.aload_n 0, 1) := by decide +kernel
theorem dX7_parts_45 : decode cX7_parts 45 = .ok (.getfield 16, 3) := by decide +kernel
theorem dX7_parts_48 : decode cX7_parts 48 = .ok (.iload_n 2, 1) := by decide +kernel
theorem dX7_parts_49 : decode cX7_parts 49 = .ok (.iaload, 1) := by decide +kernel
theorem dX7_parts_50 : decode cX7_parts 50 = .ok (.i2l, 1) := by decide +kernel
theorem dX7_parts_51 : decode cX7_parts 51 = .ok (.lmul, 1) := by decide +kernel
theorem dX7_parts_52 : decode cX7_parts 52 = .ok (.ladd, 1) := by decide +kernel
theorem dX7_parts_53 : decode cX7_parts 53 = .ok (.lstore_n 3, 1) := by decide +kernel
theorem dX7_parts_54 : decode cX7_parts 54 = .ok (.iinc 5 1, 3) := by decide +kernel
theorem dX7_parts_57 : decode cX7_parts 57 = .ok (.goto (-52), 3) := by decide +kernel
theorem dX7_parts_60 : decode cX7_parts 60 = .ok (.lload_n 3, 1) := by decide +kernel
theorem dX7_parts_61 : decode cX7_parts 61 = .ok (.lreturn, 1) := by decide +kernel
theorem dX7_tell_0 : decode cX7_tell 0 = .ok (.aload_n 0, 1) := by decide +kernel
theorem dX7_tell_1 : decode cX7_tell 1 = .ok (.iconst 0, 1) := by decide +kernel
theorem dX7_tell_2 : decode cX7_tell 2 = .ok (.putfield 90, 3) := by decide +kernel
theorem dX7_tell_5 : decode cX7_tell 5 = .ok (.aload_n 0, 1) := by decide +kernel
theorem dX7_tell_6 : decode cX7_tell 6 = .ok (.iload_n 1, 1) := by decide +kernel
theorem dX7_tell_7 : decode cX7_tell 7 = .ok (.invokevirtual 138, 3) := by decide +kernel
theorem dX7_tell_10 : decode cX7_tell 10 = .ok (.ifCond .ne 7, 3) := by decide +kernel
theorem dX7_tell_13 : decode cX7_tell 13 = .ok (.ldc2_w 114, 3) := by decide +kernel
theorem dX7_tell_16 : decode cX7_tell 16 = .ok (.lreturn, 1) := by decide +kernel
theorem dX7_tell_17 : decode cX7_tell 17 = .ok (.iload_n 2, 1) := by decide +kernel
theorem dX7_tell_18 : decode cX7_tell 18 = .ok (.tableswitch 89 0 5 #[38, 46, 53, 67, 74, 81], 38) := by decide +kernel
theorem dX7_tell_56 : decode cX7_tell 56 = .ok (.aload_n 0, 1) := by decide +kernel
theorem dX7_tell_57 : decode cX7_tell 57 = .ok (.getfield 37, 3) := by decide +kernel
theorem dX7_tell_60 : decode cX7_tell 60 = .ok (.iload_n 1, 1) := by decide +kernel
theorem dX7_tell_61 : decode cX7_tell 61 = .ok (.iaload, 1) := by decide +kernel
theorem dX7_tell_62 : decode cX7_tell 62 = .ok (.i2l, 1) := by decide +kernel
theorem dX7_tell_63 : decode cX7_tell 63 = .ok (.lreturn, 1) := by decide +kernel
theorem dX7_tell_64 : decode cX7_tell 64 = .ok (.aload_n 0, 1) := by decide +kernel
theorem dX7_tell_65 : decode cX7_tell 65 = .ok (.getfield 40, 3) := by decide +kernel
theorem dX7_tell_68 : decode cX7_tell 68 = .ok (.iload_n 1, 1) := by decide +kernel
theorem dX7_tell_69 : decode cX7_tell 69 = .ok (.laload, 1) := by decide +kernel
theorem dX7_tell_70 : decode cX7_tell 70 = .ok (.lreturn, 1) := by decide +kernel
theorem dX7_tell_71 : decode cX7_tell 71 = .ok (.aload_n 0, 1) := by decide +kernel
theorem dX7_tell_72 : decode cX7_tell 72 = .ok (.iload_n 1, 1) := by decide +kernel
theorem dX7_tell_73 : decode cX7_tell 73 = .ok (.iconst 0, 1) := by decide +kernel
theorem dX7_tell_74 : decode cX7_tell 74 = .ok (.invokevirtual 149, 3) := by decide +kernel
theorem dX7_tell_77 : decode cX7_tell 77 = .ok (.aload_n 0, 1) := by decide +kernel
theorem dX7_tell_78 : decode cX7_tell 78 = .ok (.iload_n 1, 1) := by decide +kernel
theorem dX7_tell_79 : decode cX7_tell 79 = .ok (.iconst 1, 1) := by decide +kernel
theorem dX7_tell_80 : decode cX7_tell 80 = .ok (.invokevirtual 149, 3) := by decide +kernel
theorem dX7_tell_83 : decode cX7_tell 83 = .ok (.ladd, 1) := by decide +kernel
theorem dX7_tell_84 : decode cX7_tell 84 = .ok (.lreturn, 1) := by decide +kernel
theorem dX7_tell_85 : decode cX7_tell 85 = .ok (.aload_n 0, 1) := by decide +kernel
theorem dX7_tell_86 : decode cX7_tell 86 = .ok (.iload_n 1, 1) := by decide +kernel
theorem dX7_tell_87 : decode cX7_tell 87 = .ok (.iconst 0, 1) := by decide +kernel
theorem dX7_tell_88 : decode cX7_tell 88 = .ok (.invokevirtual 149, 3) := by decide +kernel
theorem dX7_tell_91 : decode cX7_tell 91 = .ok (.lreturn, 1) := by decide +kernel
theorem dX7_tell_92 : decode cX7_tell 92 = .ok (.aload_n 0, 1) := by decide +kernel
theorem dX7_tell_93 : decode cX7_tell 93 = .ok (.getfield 44, 3) := by decide +kernel
theorem dX7_tell_96 : decode cX7_tell 96 = .ok (.iload_n 1, 1) := by decide +kernel
theorem dX7_tell_97 : decode cX7_tell 97 = .ok (.laload, 1) := by decide +kernel
theorem dX7_tell_98 : decode cX7_tell 98 = .ok (.lreturn, 1) := by decide +kernel
theorem dX7_tell_99 : decode cX7_tell 99 = .ok (.aload_n 0, 1) := by decide +kernel
theorem dX7_tell_100 : decode cX7_tell 100 = .ok (.getfield 47, 3) := by decide +kernel
theorem dX7_tell_103 : decode cX7_tell 103 = .ok (.iload_n 1, 1) := by decide +kernel
theorem dX7_tell_104 : decode cX7_tell 104 = .ok (.iaload, 1) := by decide +kernel
theorem dX7_tell_105 : decode cX7_tell 105 = .ok (.i2l, 1) := by decide +kernel
theorem dX7_tell_106 : decode cX7_tell 106 = .ok (.lreturn, 1) := by decide +kernel
theorem dX7_tell_107 : decode cX7_tell 107 = .ok (.ldc2_w 114, 3) := by decide +kernel
theorem dX7_tell_110 : decode cX7_tell 110 = .ok (.lreturn, 1) := by decide +kernel
theorem dX7_has_0 : decode cX7_has 0 = .ok (.aload_n 0, 1) := by decide +kernel
theorem dX7_has_1 : decode cX7_has 1 = .ok (.iconst 0, 1) := by decide +kernel
theorem dX7_has_2 : decode cX7_has 2 = .ok (.putfield 90, 3) := by decide +kernel
theorem dX7_has_5 : decode cX7_has 5 = .ok (.aload_n 0, 1) := by decide +kernel
theorem dX7_has_6 : decode cX7_has 6 = .ok (.iload_n 1, 1) := by decide +kernel
theorem dX7_has_7 : decode cX7_has 7 = .ok (.invokevirtual 138, 3) := by decide +kernel
theorem dX7_has_10 : decode cX7_has 10 = .ok (.ifCond .eq 26, 3) := by decide +kernel
theorem dX7_has_13 : decode cX7_has 13 = .ok (.aload_n 0, 1) := by decide +kernel
theorem dX7_has_14 : decode cX7_has 14 = .ok (.iload_n 2, 1) := by decide +kernel
theorem dX7_has_15 : decode cX7_has 15 = .ok (.iload_n 3, 1) := by decide +kernel
theorem dX7_has_16 : decode cX7_has 16 = .ok (.invokevirtual 121, 3) := by decide +kernel
theorem dX7_has_19 : decode cX7_has 19 = .ok (.ifCond .eq 17, 3) := by decide +kernel
theorem dX7_has_22 : decode cX7_has 22 = .ok (.aload_n 0, 1) := by decide +kernel
theorem dX7_has_23 : decode cX7_has 23 = .ok (.getfield 50, 3) := by decide +kernel
theorem dX7_has_26 : decode cX7_has 26 = .ok (.iload_n 1, 1) := by decide +kernel
theorem dX7_has_27 : decode cX7_has 27 = .ok (.iload_n 2, 1) := by decide +kernel
theorem dX7_has_28 : decode cX7_has 28 = .ok (.iload_n 3, 1) := by decide +kernel
theorem dX7_has_29 : decode cX7_has 29 = .ok (.invokestatic 134, 3) := by decide +kernel
theorem dX7_has_32 : decode cX7_has 32 = .ok (.iaload, 1) := by decide +kernel
theorem dX7_has_33 : decode cX7_has 33 = .ok (.goto 4, 3) := by decide +kernel
theorem dX7_has_36 : decode cX7_has 36 = .ok (.iconst (-1), 1) := by decide +kernel
theorem dX7_has_37 : decode cX7_has 37 = .ok (.ireturn, 1) := by decide +kernel
theorem dX7_draw_0 : decode cX7_draw 0 = .ok (.aload_n 0, 1) := by decide +kernel
theorem dX7_draw_1 : decode cX7_draw 1 = .ok (.iconst 0, 1) := by decide +kernel
theorem dX7_draw_2 : decode cX7_draw 2 = .ok (.putfield 90, 3) := by decide +kernel
theorem dX7_draw_5 : decode cX7_draw 5 = .ok (.aload_n 0, 1) := by decide +kernel
theorem dX7_draw_6 : decode cX7_draw 6 = .ok (.iload_n 1, 1) := by decide +kernel
theorem dX7_draw_7 : decode cX7_draw 7 = .ok (.invokevirtual 138, 3) := by decide +kernel
theorem dX7_draw_10 : decode cX7_draw 10 = .ok (.ifCond .ne 7, 3) := by decide +kernel
theorem dX7_draw_13 : decode cX7_draw 13 = .ok (.ldc2_w 114, 3) := by decide +kernel
theorem dX7_draw_16 : decode cX7_draw 16 = .ok (.lreturn, 1) := by decide +kernel
theorem dX7_draw_17 : decode cX7_draw 17 = .ok (.aload_n 0, 1) := by decide +kernel
theorem dX7_draw_18 : decode cX7_draw 18 = .ok (.iload_n 1, 1) := by decide +kernel
theorem dX7_draw_19 : decode cX7_draw 19 = .ok (.iconst 0, 1) := by decide +kernel
theorem dX7_draw_20 : decode cX7_draw 20 = .ok (.invokevirtual 149, 3) := by decide +kernel
theorem dX7_draw_23 : decode cX7_draw 23 = .ok (.lstore_n 2, 1) := by decide +kernel
theorem dX7_draw_24 : decode cX7_draw 24 = .ok (.iconst 0, 1) := by decide +kernel
theorem dX7_draw_25 : decode cX7_draw 25 = .ok (.istore 4, 2) := by decide +kernel
theorem dX7_draw_27 : decode cX7_draw 27 = .ok (.iload 4, 2) := by decide +kernel
theorem dX7_draw_29 : decode cX7_draw 29 = .ok (.bipush 8, 2) := by decide +kernel
theorem dX7_draw_31 : decode cX7_draw 31 = .ok (.if_icmp .ge 44, 3) := by decide +kernel
theorem dX7_draw_34 : decode cX7_draw 34 = .ok (.aload_n 0, 1) := by decide +kernel
theorem dX7_draw_35 : decode cX7_draw 35 = .ok (.getfield 56, 3) := by decide +kernel
theorem dX7_draw_38 : decode cX7_draw 38 = .ok (.iload 4, 2) := by decide +kernel
theorem dX7_draw_40 : decode cX7_draw 40 = .ok (.dup2, 1) := by decide +kernel
theorem dX7_draw_41 : decode cX7_draw 41 = .ok (.iaload, 1) := by decide +kernel
theorem dX7_draw_42 : decode cX7_draw 42 = .ok (.aload_n 0, 1) := by decide +kernel
theorem dX7_draw_43 : decode cX7_draw 43 = .ok (.getfield 50, 3) := by decide +kernel
theorem dX7_draw_46 : decode cX7_draw 46 = .ok (.iload_n 1, 1) := by decide +kernel
theorem dX7_draw_47 : decode cX7_draw 47 = .ok (.iconst 0, 1) := by decide +kernel
theorem dX7_draw_48 : decode cX7_draw 48 = .ok (.iload 4, 2) := by decide +kernel
theorem dX7_draw_50 : decode cX7_draw 50 = .ok (.invokestatic 134, 3) := by decide +kernel
theorem dX7_draw_53 : decode cX7_draw 53 = .ok (.iaload, 1) := by decide +kernel
theorem dX7_draw_54 : decode cX7_draw 54 = .ok (.iadd, 1) := by decide +kernel
theorem dX7_draw_55 : decode cX7_draw 55 = .ok (.iastore, 1) := by decide +kernel
theorem dX7_draw_56 : decode cX7_draw 56 = .ok (.aload_n 0, 1) := by decide +kernel
theorem dX7_draw_57 : decode cX7_draw 57 = .ok (.getfield 50, 3) := by decide +kernel
theorem dX7_draw_60 : decode cX7_draw 60 = .ok (.iload_n 1, 1) := by decide +kernel
theorem dX7_draw_61 : decode cX7_draw 61 = .ok (.iconst 0, 1) := by decide +kernel
theorem dX7_draw_62 : decode cX7_draw 62 = .ok (.iload 4, 2) := by decide +kernel
theorem dX7_draw_64 : decode cX7_draw 64 = .ok (.invokestatic 134, 3) := by decide +kernel
theorem dX7_draw_67 : decode cX7_draw 67 = .ok (.iconst 0, 1) := by decide +kernel
theorem dX7_draw_68 : decode cX7_draw 68 = .ok (.iastore, 1) := by decide +kernel
theorem dX7_draw_69 : decode cX7_draw 69 = .ok (.iinc 4 1, 3) := by decide +kernel
theorem dX7_draw_72 : decode cX7_draw 72 = .ok (.goto (-45), 3) := by decide +kernel
theorem dX7_draw_75 : decode cX7_draw 75 = .ok (.lload_n 2, 1) := by decide +kernel
theorem dX7_draw_76 : decode cX7_draw 76 = .ok (.lreturn, 1) := by decide +kernel
theorem dX7_drawn_0 : decode cX7_drawn 0 = .ok (.aload_n 0, 1) := by decide +kernel
theorem dX7_drawn_1 : decode cX7_drawn 1 = .ok (.iconst 0, 1) := by decide +kernel
theorem dX7_drawn_2 : decode cX7_drawn 2 = .ok (.putfield 90, 3) := by decide +kernel
theorem dX7_drawn_5 : decode cX7_drawn 5 = .ok (.aload_n 0, 1) := by decide +kernel
theorem dX7_drawn_6 : decode cX7_drawn 6 = .ok (.iconst 0, 1) := by decide +kernel
theorem dX7_drawn_7 : decode cX7_drawn 7 = .ok (.iload_n 1, 1) := by decide +kernel
theorem dX7_drawn_8 : decode cX7_drawn 8 = .ok (.invokevirtual 121, 3) := by decide +kernel
theorem dX7_drawn_11 : decode cX7_drawn 11 = .ok (.ifCond .eq 12, 3) := by decide +kernel
theorem dX7_drawn_14 : decode cX7_drawn 14 = .ok (.aload_n 0, 1) := by decide +kernel
theorem dX7_drawn_15 : decode cX7_drawn 15 = .ok (.getfield 56, 3) := by decide +kernel
theorem dX7_drawn_18 : decode cX7_drawn 18 = .ok (.iload_n 1, 1) := by decide +kernel
theorem dX7_drawn_19 : decode cX7_drawn 19 = .ok (.iaload, 1) := by decide +kernel
theorem dX7_drawn_20 : decode cX7_drawn 20 = .ok (.goto 4, 3) := by decide +kernel
theorem dX7_drawn_23 : decode cX7_drawn 23 = .ok (.iconst (-1), 1) := by decide +kernel
theorem dX7_drawn_24 : decode cX7_drawn 24 = .ok (.ireturn, 1) := by decide +kernel
theorem dX7_expect_0 : decode cX7_expect 0 = .ok (.aload_n 0, 1) := by decide +kernel
theorem dX7_expect_1 : decode cX7_expect 1 = .ok (.iconst 0, 1) := by decide +kernel
theorem dX7_expect_2 : decode cX7_expect 2 = .ok (.putfield 90, 3) := by decide +kernel
theorem dX7_expect_5 : decode cX7_expect 5 = .ok (.aload_n 0, 1) := by decide +kernel
theorem dX7_expect_6 : decode cX7_expect 6 = .ok (.iload_n 1, 1) := by decide +kernel
theorem dX7_expect_7 : decode cX7_expect 7 = .ok (.iload_n 2, 1) := by decide +kernel
theorem dX7_expect_8 : decode cX7_expect 8 = .ok (.iload_n 3, 1) := by decide +kernel
theorem dX7_expect_9 : decode cX7_expect 9 = .ok (.iload 4, 2) := by decide +kernel
theorem dX7_expect_11 : decode cX7_expect 11 = .ok (.iload 5, 2) := by decide +kernel
theorem dX7_expect_13 : decode cX7_expect 13 = .ok (.invokevirtual 141, 3) := by decide +kernel
theorem dX7_expect_16 : decode cX7_expect 16 = .ok (.ifCond .eq 14, 3) := by decide +kernel
theorem dX7_expect_19 : decode cX7_expect 19 = .ok (.aload_n 0, 1) := by decide +kernel
theorem dX7_expect_20 : decode cX7_expect 20 = .ok (.getfield 47, 3) := by decide +kernel
theorem dX7_expect_23 : decode cX7_expect 23 = .ok (.iload_n 1, 1) := by decide +kernel
theorem dX7_expect_24 : decode cX7_expect 24 = .ok (.iaload, 1) := by decide +kernel
theorem dX7_expect_25 : decode cX7_expect 25 = .ok (.bipush 20, 2) := by decide +kernel
theorem dX7_expect_27 : decode cX7_expect 27 = .ok (.if_icmp .ne 5, 3) := by decide +kernel
theorem dX7_expect_30 : decode cX7_expect 30 = .ok (.iconst (-1), 1) := by decide +kernel
theorem dX7_expect_31 : decode cX7_expect 31 = .ok (.ireturn, 1) := by decide +kernel
theorem dX7_expect_32 : decode cX7_expect 32 = .ok (.iconst 4, 1) := by decide +kernel
theorem dX7_expect_33 : decode cX7_expect 33 = .ok (.bipush 20, 2) := by decide +kernel
theorem dX7_expect_35 : decode cX7_expect 35 = .ok (.iload_n 1, 1) := by decide +kernel
theorem dX7_expect_36 : decode cX7_expect 36 = .ok (.imul, 1) := by decide +kernel
theorem dX7_expect_37 : decode cX7_expect 37 = .ok (.aload_n 0, 1) := by decide +kernel
theorem dX7_expect_38 : decode cX7_expect 38 = .ok (.getfield 47, 3) := by decide +kernel
theorem dX7_expect_41 : decode cX7_expect 41 = .ok (.iload_n 1, 1) := by decide +kernel
theorem dX7_expect_42 : decode cX7_expect 42 = .ok (.iaload, 1) := by decide +kernel
theorem dX7_expect_43 : decode cX7_expect 43 = .ok (.iadd, 1) := by decide +kernel
theorem dX7_expect_44 : decode cX7_expect 44 = .ok (.imul, 1) := by decide +kernel
theorem dX7_expect_45 : decode cX7_expect 45 = .ok (.istore 6, 2) := by decide +kernel
theorem dX7_expect_47 : decode cX7_expect 47 = .ok (.aload_n 0, 1) := by decide +kernel
theorem dX7_expect_48 : decode cX7_expect 48 = .ok (.getfield 59, 3) := by decide +kernel
theorem dX7_expect_51 : decode cX7_expect 51 = .ok (.iload 6, 2) := by decide +kernel
theorem dX7_expect_53 : decode cX7_expect 53 = .ok (.iload_n 2, 1) := by decide +kernel
theorem dX7_expect_54 : decode cX7_expect 54 = .ok (.iastore, 1) := by decide +kernel
theorem dX7_expect_55 : decode cX7_expect 55 = .ok (.aload_n 0, 1) := by decide +kernel
theorem dX7_expect_56 : decode cX7_expect 56 = .ok (.getfield 59, 3) := by decide +kernel
theorem dX7_expect_59 : decode cX7_expect 59 = .ok (.iload 6, 2) := by decide +kernel
theorem dX7_expect_61 : decode cX7_expect 61 = .ok (.iconst 1, 1) := by decide +kernel
theorem dX7_expect_62 : decode cX7_expect 62 = .ok (.iadd, 1) := by decide +kernel
theorem dX7_expect_63 : decode cX7_expect 63 = .ok (.iload_n 3, 1) := by decide +kernel
theorem dX7_expect_64 : decode cX7_expect 64 = .ok (.iastore, 1) := by decide +kernel
theorem dX7_expect_65 : decode cX7_expect 65 = .ok (.aload_n 0, 1) := by decide +kernel
theorem dX7_expect_66 : decode cX7_expect 66 = .ok (.getfield 59, 3) := by decide +kernel
theorem dX7_expect_69 : decode cX7_expect 69 = .ok (.iload 6, 2) := by decide +kernel
theorem dX7_expect_71 : decode cX7_expect 71 = .ok (.iconst 2, 1) := by decide +kernel
theorem dX7_expect_72 : decode cX7_expect 72 = .ok (.iadd, 1) := by decide +kernel
theorem dX7_expect_73 : decode cX7_expect 73 = .ok (.iload 4, 2) := by decide +kernel
theorem dX7_expect_75 : decode cX7_expect 75 = .ok (.iastore, 1) := by decide +kernel
theorem dX7_expect_76 : decode cX7_expect 76 = .ok (.aload_n 0, 1) := by decide +kernel
theorem dX7_expect_77 : decode cX7_expect 77 = .ok (.getfield 59, 3) := by decide +kernel
theorem dX7_expect_80 : decode cX7_expect 80 = .ok (.iload 6, 2) := by decide +kernel
theorem dX7_expect_82 : decode cX7_expect 82 = .ok (.iconst 3, 1) := by decide +kernel
theorem dX7_expect_83 : decode cX7_expect 83 = .ok (.iadd, 1) := by decide +kernel
theorem dX7_expect_84 : decode cX7_expect 84 = .ok (.iload 5, 2) := by decide +kernel
theorem dX7_expect_86 : decode cX7_expect 86 = .ok (.iastore, 1) := by decide +kernel
theorem dX7_expect_87 : decode cX7_expect 87 = .ok (.aload_n 0, 1) := by decide +kernel
theorem dX7_expect_88 : decode cX7_expect 88 = .ok (.getfield 47, 3) := by decide +kernel
theorem dX7_expect_91 : decode cX7_expect 91 = .ok (.iload_n 1, 1) := by decide +kernel
theorem dX7_expect_92 : decode cX7_expect 92 = .ok (.dup2, 1) := by decide +kernel
theorem dX7_expect_93 : decode cX7_expect 93 = .ok (.iaload, 1) := by decide +kernel
theorem dX7_expect_94 : decode cX7_expect 94 = .ok (.iconst 1, 1) := by decide +kernel
theorem dX7_expect_95 : decode cX7_expect 95 = .ok (.iadd, 1) := by decide +kernel
theorem dX7_expect_96 : decode cX7_expect 96 = .ok (.iastore, 1) := by decide +kernel
theorem dX7_expect_97 : decode cX7_expect 97 = .ok (.aload_n 0, 1) := by decide +kernel
theorem dX7_expect_98 : decode cX7_expect 98 = .ok (.getfield 47, 3) := by decide +kernel
theorem dX7_expect_101 : decode cX7_expect 101 = .ok (.iload_n 1, 1) := by decide +kernel
theorem dX7_expect_102 : decode cX7_expect 102 = .ok (.iaload, 1) := by decide +kernel
theorem dX7_expect_103 : decode cX7_expect 103 = .ok (.ireturn, 1) := by decide +kernel
theorem dX7_forget_0 : decode cX7_forget 0 = .ok (.aload_n 0, 1) := by decide +kernel
theorem dX7_forget_1 : decode cX7_forget 1 = .ok (.iconst 0, 1) := by decide +kernel
theorem dX7_forget_2 : decode cX7_forget 2 = .ok (.putfield 90, 3) := by decide +kernel
theorem dX7_forget_5 : decode cX7_forget 5 = .ok (.aload_n 0, 1) := by decide +kernel
theorem dX7_forget_6 : decode cX7_forget 6 = .ok (.iload_n 1, 1) := by decide +kernel
theorem dX7_forget_7 : decode cX7_forget 7 = .ok (.invokevirtual 138, 3) := by decide +kernel
theorem dX7_forget_10 : decode cX7_forget 10 = .ok (.ifCond .ne 5, 3) := by decide +kernel
theorem dX7_forget_13 : decode cX7_forget 13 = .ok (.iconst 0, 1) := by decide +kernel
theorem dX7_forget_14 : decode cX7_forget 14 = .ok (.ireturn, 1) := by decide +kernel
theorem dX7_forget_15 : decode cX7_forget 15 = .ok (.aload_n 0, 1) := by decide +kernel
theorem dX7_forget_16 : decode cX7_forget 16 = .ok (.getfield 47, 3) := by decide +kernel
theorem dX7_forget_19 : decode cX7_forget 19 = .ok (.iload_n 1, 1) := by decide +kernel
theorem dX7_forget_20 : decode cX7_forget 20 = .ok (.iconst 0, 1) := by decide +kernel
theorem dX7_forget_21 : decode cX7_forget 21 = .ok (.iastore, 1) := by decide +kernel
theorem dX7_forget_22 : decode cX7_forget 22 = .ok (.iconst 1, 1) := by decide +kernel
theorem dX7_forget_23 : decode cX7_forget 23 = .ok (.ireturn, 1) := by decide +kernel
theorem dX7_findWanted_0 : decode cX7_findWanted 0 = .ok (.iconst 0, 1) := by decide +kernel
theorem dX7_findWanted_1 : decode cX7_findWanted 1 = .ok (.istore_n 2, 1) := by decide +kernel
theorem dX7_findWanted_2 : decode cX7_findWanted 2 = .ok (.iload_n 2, 1) := by decide +kernel
theorem dX7_findWanted_3 : decode cX7_findWanted 3 = .ok (.bipush 8, 2) := by decide +kernel
theorem dX7_findWanted_5 : decode cX7_findWanted 5 = .ok (.if_icmp .ge 23, 3) := by decide +kernel
theorem dX7_findWanted_8 : decode cX7_findWanted 8 = .ok (.aload_n 0, 1) := by decide +kernel
theorem dX7_findWanted_9 : decode cX7_findWanted 9 = .ok (.getfield 80, 3) := by decide +kernel
theorem dX7_findWanted_12 : decode cX7_findWanted 12 = .ok (.iload_n 2, 1) := by decide +kernel
theorem dX7_findWanted_13 : decode cX7_findWanted 13 = .ok (.iconst 0, 1) := by decide +kernel
theorem dX7_findWanted_14 : decode cX7_findWanted 14 = .ok (.iastore, 1) := by decide +kernel
theorem dX7_findWanted_15 : decode cX7_findWanted 15 = .ok (.aload_n 0, 1) := by decide +kernel
theorem dX7_findWanted_16 : decode cX7_findWanted 16 = .ok (.getfield 83, 3) := by decide +kernel
theorem dX7_findWanted_19 : decode cX7_findWanted 19 = .ok (.iload_n 2, 1) := by decide +kernel
theorem dX7_findWanted_20 : decode cX7_findWanted 20 = .ok (.iconst 0, 1) := by decide +kernel
theorem dX7_findWanted_21 : decode cX7_findWanted 21 = .ok (.iastore, 1) := by decide +kernel
theorem dX7_findWanted_22 : decode cX7_findWanted 22 = .ok (.iinc 2 1, 3) := by decide +kernel
theorem dX7_findWanted_25 : decode cX7_findWanted 25 = .ok (.goto (-23), 3) := by decide +kernel
theorem dX7_findWanted_28 : decode cX7_findWanted 28 = .ok (.iconst 0, 1) := by decide +kernel
theorem dX7_findWanted_29 : decode cX7_findWanted 29 = .ok (.istore_n 2, 1) := by decide +kernel
theorem dX7_findWanted_30 : decode cX7_findWanted 30 = .ok (.iload_n 2, 1) := by decide +kernel
theorem dX7_findWanted_31 : decode cX7_findWanted 31 = .ok (.aload_n 0, 1) := by decide +kernel
theorem dX7_findWanted_32 : decode cX7_findWanted 32 = .ok (.getfield 47, 3) := by decide +kernel
theorem dX7_findWanted_35 : decode cX7_findWanted 35 = .ok (.iload_n 1, 1) := by decide +kernel
theorem dX7_findWanted_36 : decode cX7_findWanted 36 = .ok (.iaload, 1) := by decide +kernel
theorem dX7_findWanted_37 : decode cX7_findWanted 37 = .ok (.if_icmp .ge 223, 3) := by decide +kernel
theorem dX7_findWanted_40 : decode cX7_findWanted 40 = .ok (.iconst 4, 1) := by decide +kernel
theorem dX7_findWanted_41 : decode cX7_findWanted 41 = .ok (.bipush 20, 2) := by decide +kernel
theorem dX7_findWanted_43 : decode cX7_findWanted 43 = .ok (.iload_n 1, 1) := by decide +kernel
theorem dX7_findWanted_44 : decode cX7_findWanted 44 = .ok (.imul, 1) := by decide +kernel
theorem dX7_findWanted_45 : decode cX7_findWanted 45 = .ok (.iload_n 2, 1) := by decide +kernel
theorem dX7_findWanted_46 : decode cX7_findWanted 46 = .ok (.iadd, 1) := by decide +kernel
theorem dX7_findWanted_47 : decode cX7_findWanted 47 = .ok (.imul, 1) := by decide +kernel
theorem dX7_findWanted_48 : decode cX7_findWanted 48 = .ok (.istore_n 3, 1) := by decide +kernel
theorem dX7_findWanted_49 : decode cX7_findWanted 49 = .ok (.aload_n 0, 1) := by decide +kernel
theorem dX7_findWanted_50 : decode cX7_findWanted 50 = .ok (.aload_n 0, 1) := by decide +kernel
theorem dX7_findWanted_51 : decode cX7_findWanted 51 = .ok (.getfield 59, 3) := by decide +kernel
theorem dX7_findWanted_54 : decode cX7_findWanted 54 = .ok (.iload_n 3, 1) := by decide +kernel
theorem dX7_findWanted_55 : decode cX7_findWanted 55 = .ok (.iaload, 1) := by decide +kernel
theorem dX7_findWanted_56 : decode cX7_findWanted 56 = .ok (.aload_n 0, 1) := by decide +kernel
theorem dX7_findWanted_57 : decode cX7_findWanted 57 = .ok (.getfield 59, 3) := by decide +kernel
theorem dX7_findWanted_60 : decode cX7_findWanted 60 = .ok (.iload_n 3, 1) := by decide +kernel
theorem dX7_findWanted_61 : decode cX7_findWanted 61 = .ok (.iconst 1, 1) := by decide +kernel
theorem dX7_findWanted_62 : decode cX7_findWanted 62 = .ok (.iadd, 1) := by decide +kernel
theorem dX7_findWanted_63 : decode cX7_findWanted 63 = .ok (.iaload, 1) := by decide +kernel
theorem dX7_findWanted_64 : decode cX7_findWanted 64 = .ok (.aload_n 0, 1) := by decide +kernel
theorem dX7_findWanted_65 : decode cX7_findWanted 65 = .ok (.getfield 59, 3) := by decide +kernel
theorem dX7_findWanted_68 : decode cX7_findWanted 68 = .ok (.iload_n 3, 1) := by decide +kernel
theorem dX7_findWanted_69 : decode cX7_findWanted 69 = .ok (.iconst 2, 1) := by decide +kernel
theorem dX7_findWanted_70 : decode cX7_findWanted 70 = .ok (.iadd, 1) := by decide +kernel
theorem dX7_findWanted_71 : decode cX7_findWanted 71 = .ok (.iaload, 1) := by decide +kernel
theorem dX7_findWanted_72 : decode cX7_findWanted 72 = .ok (.aload_n 0, 1) := by decide +kernel
theorem dX7_findWanted_73 : decode cX7_findWanted 73 = .ok (.getfield 59, 3) := by decide +kernel
theorem dX7_findWanted_76 : decode cX7_findWanted 76 = .ok (.iload_n 3, 1) := by decide +kernel
theorem dX7_findWanted_77 : decode cX7_findWanted 77 = .ok (.iconst 3, 1) := by decide +kernel
theorem dX7_findWanted_78 : decode cX7_findWanted 78 = .ok (.iadd, 1) := by decide +kernel
theorem dX7_findWanted_79 : decode cX7_findWanted 79 = .ok (.iaload, 1) := by decide +kernel
theorem dX7_findWanted_80 : decode cX7_findWanted 80 = .ok (.invokevirtual 145, 3) := by decide +kernel
theorem dX7_findWanted_83 : decode cX7_findWanted 83 = .ok (.istore 4, 2) := by decide +kernel
theorem dX7_findWanted_85 : decode cX7_findWanted 85 = .ok (.iload 4, 2) := by decide +kernel
theorem dX7_findWanted_87 : decode cX7_findWanted 87 = .ok (.aload_n 0, 1) := by decide +kernel
theorem dX7_findWanted_88 : decode cX7_findWanted 88 = .ok (.getfield 16, 3) := by decide +kernel
theorem dX7_findWanted_91 : decode cX7_findWanted 91 = .ok (.iconst 1, 1) := by decide +kernel
theorem dX7_findWanted_92 : decode cX7_findWanted 92 = .ok (.iaload, 1) := by decide +kernel
theorem dX7_findWanted_93 : decode cX7_findWanted 93 = .ok (.idiv, 1) := by decide +kernel
theorem dX7_findWanted_94 : decode cX7_findWanted 94 = .ok (.istore 5, 2) := by decide +kernel
theorem dX7_findWanted_96 : decode cX7_findWanted 96 = .ok (.iload 4, 2) := by decide +kernel
theorem dX7_findWanted_98 : decode cX7_findWanted 98 = .ok (.ifCond .lt 11, 3) := by decide +kernel
theorem dX7_findWanted_101 : decode cX7_findWanted 101 = .ok (.iload 5, 2) := by decide +kernel
theorem dX7_findWanted_103 : decode cX7_findWanted 103 = .ok (.sipush 2000, 3) := by decide +kernel
theorem dX7_findWanted_106 : decode cX7_findWanted 106 = .ok (.if_icmp .le 5, 3) := by decide +kernel
theorem dX7_findWanted_109 : decode cX7_findWanted 109 = .ok (.iconst 0, 1) := by decide +kernel
theorem dX7_findWanted_110 : decode cX7_findWanted 110 = .ok (.ireturn, 1) := by decide +kernel
theorem dX7_findWanted_111 : decode cX7_findWanted 111 = .ok (.aload_n 0, 1) := by decide +kernel
theorem dX7_findWanted_112 : decode cX7_findWanted 112 = .ok (.invokevirtual 125, 3) := by decide +kernel
theorem dX7_findWanted_115 : decode cX7_findWanted 115 = .ok (.aload_n 0, 1) := by decide +kernel
theorem dX7_findWanted_116 : decode cX7_findWanted 116 = .ok (.iconst 1, 1) := by decide +kernel
theorem dX7_findWanted_117 : decode cX7_findWanted 117 = .ok (.iload 5, 2) := by decide +kernel
theorem dX7_findWanted_119 : decode cX7_findWanted 119 = .ok (.invokevirtual 128, 3) := by decide +kernel
theorem dX7_findWanted_122 : decode cX7_findWanted 122 = .ok (.iconst (-1), 1) := by decide +kernel
theorem dX7_findWanted_123 : decode cX7_findWanted 123 = .ok (.if_icmp .ne 5, 3) := by decide +kernel
theorem dX7_findWanted_126 : decode cX7_findWanted 126 = .ok (.iconst 0, 1) := by decide +kernel
theorem dX7_findWanted_127 : decode cX7_findWanted 127 = .ok (.ireturn, 1) := by decide +kernel
theorem dX7_findWanted_128 : decode cX7_findWanted 128 = .ok (.aload_n 0, 1) := by decide +kernel
theorem dX7_findWanted_129 : decode cX7_findWanted 129 = .ok (.getfield 59, 3) := by decide +kernel
theorem dX7_findWanted_132 : decode cX7_findWanted 132 = .ok (.iload_n 3, 1) := by decide +kernel
theorem dX7_findWanted_133 : decode cX7_findWanted 133 = .ok (.iconst 1, 1) := by decide +kernel
theorem dX7_findWanted_134 : decode cX7_findWanted 134 = .ok (.iadd, 1) := by decide +kernel
theorem dX7_findWanted_135 : decode cX7_findWanted 135 = .ok (.iaload, 1) := by decide +kernel
theorem dX7_findWanted_136 : decode cX7_findWanted 136 = .ok (.iconst 1, 1) := by decide +kernel
theorem dX7_findWanted_137 : decode cX7_findWanted 137 = .ok (.if_icmp .ne 27, 3) := by decide +kernel
theorem dX7_findWanted_140 : decode cX7_findWanted 140 = .ok (.aload_n 0, 1) := by decide +kernel
theorem dX7_findWanted_141 : decode cX7_findWanted 141 = .ok (.getfield 80, 3) := by decide +kernel
theorem dX7_findWanted_144 : decode cX7_findWanted 144 = .ok (.aload_n 0, 1) := by decide +kernel
theorem dX7_findWanted_145 : decode cX7_findWanted 145 = .ok (.getfield 59, 3) := by decide +kernel
theorem dX7_findWanted_148 : decode cX7_findWanted 148 = .ok (.iload_n 3, 1) := by decide +kernel
theorem dX7_findWanted_149 : decode cX7_findWanted 149 = .ok (.iconst 2, 1) := by decide +kernel
theorem dX7_findWanted_150 : decode cX7_findWanted 150 = .ok (.iadd, 1) := by decide +kernel
theorem dX7_findWanted_151 : decode cX7_findWanted 151 = .ok (.iaload, 1) := by decide +kernel
theorem dX7_findWanted_152 : decode cX7_findWanted 152 = .ok (.dup2, 1) := by decide +kernel
theorem dX7_findWanted_153 : decode cX7_findWanted 153 = .ok (.iaload, 1) := by decide +kernel
theorem dX7_findWanted_154 : decode cX7_findWanted 154 = .ok (.aload_n 0, 1) := by decide +kernel
theorem dX7_findWanted_155 : decode cX7_findWanted 155 = .ok (.getfield 59, 3) := by decide +kernel
theorem dX7_findWanted_158 : decode cX7_findWanted 158 = .ok (.iload_n 3, 1) := by decide +kernel
theorem dX7_findWanted_159 : decode cX7_findWanted 159 = .ok (.iconst 3, 1) := by decide +kernel
theorem dX7_findWanted_160 : decode cX7_findWanted 160 = .ok (.iadd, 1) := by decide +kernel
theorem dX7_findWanted_161 : decode cX7_findWanted 161 = .ok (.iaload, 1) := by decide +kernel
theorem dX7_findWanted_162 : decode cX7_findWanted 162 = .ok (.iadd, 1) := by decide +kernel
theorem dX7_findWanted_163 : decode cX7_findWanted 163 = .ok (.iastore, 1) := by decide +kernel
theorem dX7_findWanted_164 : decode cX7_findWanted 164 = .ok (.iconst 0, 1) := by decide +kernel
theorem dX7_findWanted_165 : decode cX7_findWanted 165 = .ok (.istore 6, 2) := by decide +kernel
theorem dX7_findWanted_167 : decode cX7_findWanted 167 = .ok (.iload 6, 2) := by decide +kernel
theorem dX7_findWanted_169 : decode cX7_findWanted 169 = .ok (.aload_n 0, 1) := by decide +kernel
theorem dX7_findWanted_170 : decode cX7_findWanted 170 = .ok (.getfield 7, 3) := by decide +kernel
theorem dX7_findWanted_173 : decode cX7_findWanted 173 = .ok (.iconst 1, 1) := by decide +kernel
theorem dX7_findWanted_174 : decode cX7_findWanted 174 = .ok (.iaload, 1) := by decide +kernel
theorem dX7_findWanted_175 : decode cX7_findWanted 175 = .ok (.if_icmp .ge 79, 3) := by decide +kernel
theorem dX7_findWanted_178 : decode cX7_findWanted 178 = .ok (.aload_n 0, 1) := by decide +kernel
theorem dX7_findWanted_179 : decode cX7_findWanted 179 = .ok (.getfield 71, 3) := by decide +kernel
theorem dX7_findWanted_182 : decode cX7_findWanted 182 = .ok (.iload 6, 2) := by decide +kernel
theorem dX7_findWanted_184 : decode cX7_findWanted 184 = .ok (.iaload, 1) := by decide +kernel
theorem dX7_findWanted_185 : decode cX7_findWanted 185 = .ok (.aload_n 0, 1) := by decide +kernel
theorem dX7_findWanted_186 : decode cX7_findWanted 186 = .ok (.getfield 80, 3) := by decide +kernel
theorem dX7_findWanted_189 : decode cX7_findWanted 189 = .ok (.iload 6, 2) := by decide +kernel
theorem dX7_findWanted_191 : decode cX7_findWanted 191 = .ok (.iaload, 1) := by decide +kernel
theorem dX7_findWanted_192 : decode cX7_findWanted 192 = .ok (.if_icmp .le 21, 3) := by decide +kernel
theorem dX7_findWanted_195 : decode cX7_findWanted 195 = .ok (.aload_n 0, 1) := by decide +kernel
theorem dX7_findWanted_196 : decode cX7_findWanted 196 = .ok (.getfield 71, 3) := by decide +kernel
theorem dX7_findWanted_199 : decode cX7_findWanted 199 = .ok (.iload 6, 2) := by decide +kernel
theorem dX7_findWanted_201 : decode cX7_findWanted 201 = .ok (.iaload, 1) := by decide +kernel
theorem dX7_findWanted_202 : decode cX7_findWanted 202 = .ok (.aload_n 0, 1) := by decide +kernel
theorem dX7_findWanted_203 : decode cX7_findWanted 203 = .ok (.getfield 80, 3) := by decide +kernel
theorem dX7_findWanted_206 : decode cX7_findWanted 206 = .ok (.iload 6, 2) := by decide +kernel
theorem dX7_findWanted_208 : decode cX7_findWanted 208 = .ok (.iaload, 1) := by decide +kernel
theorem dX7_findWanted_209 : decode cX7_findWanted 209 = .ok (.isub, 1) := by decide +kernel
theorem dX7_findWanted_210 : decode cX7_findWanted 210 = .ok (.goto 4, 3) := by decide +kernel
theorem dX7_findWanted_213 : decode cX7_findWanted 213 = .ok (.iconst 0, 1) := by decide +kernel
theorem dX7_findWanted_214 : decode cX7_findWanted 214 = .ok (.istore 7, 2) := by decide +kernel
theorem dX7_findWanted_216 : decode cX7_findWanted 216 = .ok (.aload_n 0, 1) := by decide +kernel
theorem dX7_findWanted_217 : decode cX7_findWanted 217 = .ok (.getfield 83, 3) := by decide +kernel
theorem dX7_findWanted_220 : decode cX7_findWanted 220 = .ok (.iload 6, 2) := by decide +kernel
theorem dX7_findWanted_222 : decode cX7_findWanted 222 = .ok (.dup2, 1) := by decide +kernel
theorem dX7_findWanted_223 : decode cX7_findWanted 223 = .ok (.iaload, 1) := by decide +kernel
theorem dX7_findWanted_224 : decode cX7_findWanted 224 = .ok (.iload 7, 2) := by decide +kernel
theorem dX7_findWanted_226 : decode cX7_findWanted 226 = .ok (.iadd, 1) := by decide +kernel
theorem dX7_findWanted_227 : decode cX7_findWanted 227 = .ok (.iastore, 1) := by decide +kernel
theorem dX7_findWanted_228 : decode cX7_findWanted 228 = .ok (.aload_n 0, 1) := by decide +kernel
theorem dX7_findWanted_229 : decode cX7_findWanted 229 = .ok (.getfield 80, 3) := by decide +kernel
theorem dX7_findWanted_232 : decode cX7_findWanted 232 = .ok (.iload 6, 2) := by decide +kernel
theorem dX7_findWanted_234 : decode cX7_findWanted 234 = .ok (.dup2, 1) := by decide +kernel
theorem dX7_findWanted_235 : decode cX7_findWanted 235 = .ok (.iaload, 1) := by decide +kernel
theorem dX7_findWanted_236 : decode cX7_findWanted 236 = .ok (.iload 7, 2) := by decide +kernel
theorem dX7_findWanted_238 : decode cX7_findWanted 238 = .ok (.aload_n 0, 1) := by decide +kernel
theorem dX7_findWanted_239 : decode cX7_findWanted 239 = .ok (.getfield 71, 3) := by decide +kernel
theorem dX7_findWanted_242 : decode cX7_findWanted 242 = .ok (.iload 6, 2) := by decide +kernel
theorem dX7_findWanted_244 : decode cX7_findWanted 244 = .ok (.iaload, 1) := by decide +kernel
theorem dX7_findWanted_245 : decode cX7_findWanted 245 = .ok (.isub, 1) := by decide +kernel
theorem dX7_findWanted_246 : decode cX7_findWanted 246 = .ok (.iadd, 1) := by decide +kernel
theorem dX7_findWanted_247 : decode cX7_findWanted 247 = .ok (.iastore, 1) := by decide +kernel
theorem dX7_findWanted_248 : decode cX7_findWanted 248 = .ok (.iinc 6 1, 3) := by decide +kernel
theorem dX7_findWanted_251 : decode cX7_findWanted 251 = .ok (.goto (-84), 3) := by decide +kernel
theorem dX7_findWanted_254 : decode cX7_findWanted 254 = .ok (.iinc 2 1, 3) := by decide +kernel
theorem dX7_findWanted_257 : decode cX7_findWanted 257 = .ok (.goto (-227), 3) := by decide +kernel
theorem dX7_findWanted_260 : decode cX7_findWanted 260 = .ok (.iconst 1, 1) := by decide +kernel
theorem dX7_findWanted_261 : decode cX7_findWanted 261 = .ok (.ireturn, 1) := by decide +kernel
theorem dX7_wanted_0 : decode cX7_wanted 0 = .ok (.aload_n 0, 1) := by decide +kernel
theorem dX7_wanted_1 : decode cX7_wanted 1 = .ok (.iconst 0, 1) := by decide +kernel
theorem dX7_wanted_2 : decode cX7_wanted 2 = .ok (.putfield 90, 3) := by decide +kernel
theorem dX7_wanted_5 : decode cX7_wanted 5 = .ok (.aload_n 0, 1) := by decide +kernel
theorem dX7_wanted_6 : decode cX7_wanted 6 = .ok (.iload_n 1, 1) := by decide +kernel
theorem dX7_wanted_7 : decode cX7_wanted 7 = .ok (.invokevirtual 138, 3) := by decide +kernel
theorem dX7_wanted_10 : decode cX7_wanted 10 = .ok (.ifCond .eq 29, 3) := by decide +kernel
theorem dX7_wanted_13 : decode cX7_wanted 13 = .ok (.aload_n 0, 1) := by decide +kernel
theorem dX7_wanted_14 : decode cX7_wanted 14 = .ok (.iconst 1, 1) := by decide +kernel
theorem dX7_wanted_15 : decode cX7_wanted 15 = .ok (.iload_n 2, 1) := by decide +kernel
theorem dX7_wanted_16 : decode cX7_wanted 16 = .ok (.invokevirtual 121, 3) := by decide +kernel
theorem dX7_wanted_19 : decode cX7_wanted 19 = .ok (.ifCond .eq 20, 3) := by decide +kernel
theorem dX7_wanted_22 : decode cX7_wanted 22 = .ok (.aload_n 0, 1) := by decide +kernel
theorem dX7_wanted_23 : decode cX7_wanted 23 = .ok (.iload_n 1, 1) := by decide +kernel
theorem dX7_wanted_24 : decode cX7_wanted 24 = .ok (.invokevirtual 152, 3) := by decide +kernel
theorem dX7_wanted_27 : decode cX7_wanted 27 = .ok (.ifCond .eq 12, 3) := by decide +kernel
theorem dX7_wanted_30 : decode cX7_wanted 30 = .ok (.aload_n 0, 1) := by decide +kernel
theorem dX7_wanted_31 : decode cX7_wanted 31 = .ok (.getfield 83, 3) := by decide +kernel
theorem dX7_wanted_34 : decode cX7_wanted 34 = .ok (.iload_n 2, 1) := by decide +kernel
theorem dX7_wanted_35 : decode cX7_wanted 35 = .ok (.iaload, 1) := by decide +kernel
theorem dX7_wanted_36 : decode cX7_wanted 36 = .ok (.goto 4, 3) := by decide +kernel
theorem dX7_wanted_39 : decode cX7_wanted 39 = .ok (.iconst (-1), 1) := by decide +kernel
theorem dX7_wanted_40 : decode cX7_wanted 40 = .ok (.ireturn, 1) := by decide +kernel
theorem dX7_about_0 : decode cX7_about 0 = .ok (.aload_n 0, 1) := by decide +kernel
theorem dX7_about_1 : decode cX7_about 1 = .ok (.iconst 0, 1) := by decide +kernel
theorem dX7_about_2 : decode cX7_about 2 = .ok (.putfield 90, 3) := by decide +kernel
theorem dX7_about_5 : decode cX7_about 5 = .ok (.iload_n 1, 1) := by decide +kernel
theorem dX7_about_6 : decode cX7_about 6 = .ok (.iconst 0, 1) := by decide +kernel
theorem dX7_about_7 : decode cX7_about 7 = .ok (.iconst 1, 1) := by decide +kernel
theorem dX7_about_8 : decode cX7_about 8 = .ok (.invokestatic 98, 3) := by decide +kernel
theorem dX7_about_11 : decode cX7_about 11 = .ok (.ifCond .eq 53, 3) := by decide +kernel
theorem dX7_about_14 : decode cX7_about 14 = .ok (.iload_n 2, 1) := by decide +kernel
theorem dX7_about_15 : decode cX7_about 15 = .ok (.ifCond .ne 12, 3) := by decide +kernel
theorem dX7_about_18 : decode cX7_about 18 = .ok (.aload_n 0, 1) := by decide +kernel
theorem dX7_about_19 : decode cX7_about 19 = .ok (.getfield 7, 3) := by decide +kernel
theorem dX7_about_22 : decode cX7_about 22 = .ok (.iload_n 1, 1) := by decide +kernel
theorem dX7_about_23 : decode cX7_about 23 = .ok (.iaload, 1) := by decide +kernel
theorem dX7_about_24 : decode cX7_about 24 = .ok (.goto 39, 3) := by decide +kernel
theorem dX7_about_27 : decode cX7_about 27 = .ok (.iload_n 2, 1) := by decide +kernel
theorem dX7_about_28 : decode cX7_about 28 = .ok (.bipush 10, 2) := by decide +kernel
theorem dX7_about_30 : decode cX7_about 30 = .ok (.bipush 9, 2) := by decide +kernel
theorem dX7_about_32 : decode cX7_about 32 = .ok (.aload_n 0, 1) := by decide +kernel
theorem dX7_about_33 : decode cX7_about 33 = .ok (.getfield 7, 3) := by decide +kernel
theorem dX7_about_36 : decode cX7_about 36 = .ok (.iload_n 1, 1) := by decide +kernel
theorem dX7_about_37 : decode cX7_about 37 = .ok (.iaload, 1) := by decide +kernel
theorem dX7_about_38 : decode cX7_about 38 = .ok (.iadd, 1) := by decide +kernel
theorem dX7_about_39 : decode cX7_about 39 = .ok (.invokestatic 98, 3) := by decide +kernel
theorem dX7_about_42 : decode cX7_about 42 = .ok (.ifCond .eq 20, 3) := by decide +kernel
theorem dX7_about_45 : decode cX7_about 45 = .ok (.aload_n 0, 1) := by decide +kernel
theorem dX7_about_46 : decode cX7_about 46 = .ok (.getfield 13, 3) := by decide +kernel
theorem dX7_about_49 : decode cX7_about 49 = .ok (.bipush 8, 2) := by decide +kernel
theorem dX7_about_51 : decode cX7_about 51 = .ok (.iload_n 1, 1) := by decide +kernel
theorem dX7_about_52 : decode cX7_about 52 = .ok (.imul, 1) := by decide +kernel
theorem dX7_about_53 : decode cX7_about 53 = .ok (.iload_n 2, 1) := by decide +kernel
theorem dX7_about_54 : decode cX7_about 54 = .ok (.iadd, 1) := by decide +kernel
theorem dX7_about_55 : decode cX7_about 55 = .ok (.bipush 10, 2) := by decide +kernel
theorem dX7_about_57 : decode cX7_about 57 = .ok (.isub, 1) := by decide +kernel
theorem dX7_about_58 : decode cX7_about 58 = .ok (.iaload, 1) := by decide +kernel
theorem dX7_about_59 : decode cX7_about 59 = .ok (.goto 4, 3) := by decide +kernel
theorem dX7_about_62 : decode cX7_about 62 = .ok (.iconst (-1), 1) := by decide +kernel
theorem dX7_about_63 : decode cX7_about 63 = .ok (.ireturn, 1) := by decide +kernel
theorem dX7_about_64 : decode cX7_about 64 = .ok (.iload_n 1, 1) := by decide +kernel
theorem dX7_about_65 : decode cX7_about 65 = .ok (.iconst 2, 1) := by decide +kernel
theorem dX7_about_66 : decode cX7_about 66 = .ok (.if_icmp .eq 5, 3) := by decide +kernel
theorem dX7_about_69 : decode cX7_about 69 = .ok (.iconst (-1), 1) := by decide +kernel
theorem dX7_about_70 : decode cX7_about 70 = .ok (.ireturn, 1) := by decide +kernel
theorem dX7_about_71 : decode cX7_about 71 = .ok (.iload_n 2, 1) := by decide +kernel
theorem dX7_about_72 : decode cX7_about 72 = .ok (.tableswitch 71 0 4 #[36, 43, 50, 57, 64], 36) := by decide +kernel
theorem dX7_about_108 : decode cX7_about 108 = .ok (.aload_n 0, 1) := by decide +kernel
theorem dX7_about_109 : decode cX7_about 109 = .ok (.getfield 22, 3) := by decide +kernel
theorem dX7_about_112 : decode cX7_about 112 = .ok (.iconst 0, 1) := by decide +kernel
theorem dX7_about_113 : decode cX7_about 113 = .ok (.iaload, 1) := by decide +kernel
theorem dX7_about_114 : decode cX7_about 114 = .ok (.ireturn, 1) := by decide +kernel
theorem dX7_about_115 : decode cX7_about 115 = .ok (.aload_n 0, 1) := by decide +kernel
theorem dX7_about_116 : decode cX7_about 116 = .ok (.getfield 34, 3) := by decide +kernel
theorem dX7_about_119 : decode cX7_about 119 = .ok (.iconst 0, 1) := by decide +kernel
theorem dX7_about_120 : decode cX7_about 120 = .ok (.iaload, 1) := by decide +kernel
theorem dX7_about_121 : decode cX7_about 121 = .ok (.ireturn, 1) := by decide +kernel
theorem dX7_about_122 : decode cX7_about 122 = .ok (.aload_n 0, 1) := by decide +kernel
theorem dX7_about_123 : decode cX7_about 123 = .ok (.getfield 16, 3) := by decide +kernel
theorem dX7_about_126 : decode cX7_about 126 = .ok (.iconst 0, 1) := by decide +kernel
theorem dX7_about_127 : decode cX7_about 127 = .ok (.iaload, 1) := by decide +kernel
theorem dX7_about_128 : decode cX7_about 128 = .ok (.ireturn, 1) := by decide +kernel
theorem dX7_about_129 : decode cX7_about 129 = .ok (.aload_n 0, 1) := by decide +kernel
theorem dX7_about_130 : decode cX7_about 130 = .ok (.getfield 16, 3) := by decide +kernel
theorem dX7_about_133 : decode cX7_about 133 = .ok (.iconst 1, 1) := by decide +kernel
theorem dX7_about_134 : decode cX7_about 134 = .ok (.iaload, 1) := by decide +kernel
theorem dX7_about_135 : decode cX7_about 135 = .ok (.ireturn, 1) := by decide +kernel
theorem dX7_about_136 : decode cX7_about 136 = .ok (.aload_n 0, 1) := by decide +kernel
theorem dX7_about_137 : decode cX7_about 137 = .ok (.getfield 31, 3) := by decide +kernel
theorem dX7_about_140 : decode cX7_about 140 = .ok (.iconst 0, 1) := by decide +kernel
theorem dX7_about_141 : decode cX7_about 141 = .ok (.iaload, 1) := by decide +kernel
theorem dX7_about_142 : decode cX7_about 142 = .ok (.ireturn, 1) := by decide +kernel
theorem dX7_about_143 : decode cX7_about 143 = .ok (.iload_n 2, 1) := by decide +kernel
theorem dX7_about_144 : decode cX7_about 144 = .ok (.bipush 10, 2) := by decide +kernel
theorem dX7_about_146 : decode cX7_about 146 = .ok (.bipush 9, 2) := by decide +kernel
theorem dX7_about_148 : decode cX7_about 148 = .ok (.aload_n 0, 1) := by decide +kernel
theorem dX7_about_149 : decode cX7_about 149 = .ok (.getfield 22, 3) := by decide +kernel
theorem dX7_about_152 : decode cX7_about 152 = .ok (.iconst 0, 1) := by decide +kernel
theorem dX7_about_153 : decode cX7_about 153 = .ok (.iaload, 1) := by decide +kernel
theorem dX7_about_154 : decode cX7_about 154 = .ok (.iadd, 1) := by decide +kernel
theorem dX7_about_155 : decode cX7_about 155 = .ok (.invokestatic 98, 3) := by decide +kernel
theorem dX7_about_158 : decode cX7_about 158 = .ok (.ifCond .eq 15, 3) := by decide +kernel
theorem dX7_about_161 : decode cX7_about 161 = .ok (.aload_n 0, 1) := by decide +kernel
theorem dX7_about_162 : decode cX7_about 162 = .ok (.getfield 25, 3) := by decide +kernel
theorem dX7_about_165 : decode cX7_about 165 = .ok (.iload_n 2, 1) := by decide +kernel
theorem dX7_about_166 : decode cX7_about 166 = .ok (.bipush 10, 2) := by decide +kernel
theorem dX7_about_168 : decode cX7_about 168 = .ok (.isub, 1) := by decide +kernel
theorem dX7_about_169 : decode cX7_about 169 = .ok (.iaload, 1) := by decide +kernel
theorem dX7_about_170 : decode cX7_about 170 = .ok (.goto 34, 3) := by decide +kernel
theorem dX7_about_173 : decode cX7_about 173 = .ok (.iload_n 2, 1) := by decide +kernel
theorem dX7_about_174 : decode cX7_about 174 = .ok (.bipush 30, 2) := by decide +kernel
theorem dX7_about_176 : decode cX7_about 176 = .ok (.bipush 29, 2) := by decide +kernel
theorem dX7_about_178 : decode cX7_about 178 = .ok (.aload_n 0, 1) := by decide +kernel
theorem dX7_about_179 : decode cX7_about 179 = .ok (.getfield 22, 3) := by decide +kernel
theorem dX7_about_182 : decode cX7_about 182 = .ok (.iconst 0, 1) := by decide +kernel
theorem dX7_about_183 : decode cX7_about 183 = .ok (.iaload, 1) := by decide +kernel
theorem dX7_about_184 : decode cX7_about 184 = .ok (.iadd, 1) := by decide +kernel
theorem dX7_about_185 : decode cX7_about 185 = .ok (.invokestatic 98, 3) := by decide +kernel
theorem dX7_about_188 : decode cX7_about 188 = .ok (.ifCond .eq 15, 3) := by decide +kernel
theorem dX7_about_191 : decode cX7_about 191 = .ok (.aload_n 0, 1) := by decide +kernel
theorem dX7_about_192 : decode cX7_about 192 = .ok (.getfield 28, 3) := by decide +kernel
theorem dX7_about_195 : decode cX7_about 195 = .ok (.iload_n 2, 1) := by decide +kernel
theorem dX7_about_196 : decode cX7_about 196 = .ok (.bipush 30, 2) := by decide +kernel
theorem dX7_about_198 : decode cX7_about 198 = .ok (.isub, 1) := by decide +kernel
theorem dX7_about_199 : decode cX7_about 199 = .ok (.iaload, 1) := by decide +kernel
theorem dX7_about_200 : decode cX7_about 200 = .ok (.goto 4, 3) := by decide +kernel
theorem dX7_about_203 : decode cX7_about 203 = .ok (.iconst (-1), 1) := by decide +kernel
theorem dX7_about_204 : decode cX7_about 204 = .ok (.ireturn, 1) := by decide +kernel
theorem dX7_image_0 : decode cX7_image 0 = .ok (.aload_n 0, 1) := by decide +kernel
theorem dX7_image_1 : decode cX7_image 1 = .ok (.iconst 0, 1) := by decide +kernel
theorem dX7_image_2 : decode cX7_image 2 = .ok (.putfield 90, 3) := by decide +kernel
theorem dX7_image_5 : decode cX7_image 5 = .ok (.iload_n 1, 1) := by decide +kernel
theorem dX7_image_6 : decode cX7_image 6 = .ok (.iconst 0, 1) := by decide +kernel
theorem dX7_image_7 : decode cX7_image 7 = .ok (.iconst 2, 1) := by decide +kernel
theorem dX7_image_8 : decode cX7_image 8 = .ok (.invokestatic 98, 3) := by decide +kernel
theorem dX7_image_11 : decode cX7_image 11 = .ok (.ifCond .ne 5, 3) := by decide +kernel
theorem dX7_image_14 : decode cX7_image 14 = .ok (.iconst 0, 1) := by decide +kernel
theorem dX7_image_15 : decode cX7_image 15 = .ok (.ireturn, 1) := by decide +kernel
theorem dX7_image_16 : decode cX7_image 16 = .ok (.aload_n 0, 1) := by decide +kernel
theorem dX7_image_17 : decode cX7_image 17 = .ok (.iconst 0, 1) := by decide +kernel
theorem dX7_image_18 : decode cX7_image 18 = .ok (.iload_n 1, 1) := by decide +kernel
theorem dX7_image_19 : decode cX7_image 19 = .ok (.iconst 1, 1) := by decide +kernel
theorem dX7_image_20 : decode cX7_image 20 = .ok (.iadd, 1) := by decide +kernel
theorem dX7_image_21 : decode cX7_image 21 = .ok (.invokevirtual 155, 3) := by decide +kernel
theorem dX7_image_24 : decode cX7_image 24 = .ok (.aload_n 0, 1) := by decide +kernel
theorem dX7_image_25 : decode cX7_image 25 = .ok (.getfield 86, 3) := by decide +kernel
theorem dX7_image_28 : decode cX7_image 28 = .ok (.iload_n 1, 1) := by decide +kernel
theorem dX7_image_29 : decode cX7_image 29 = .ok (.iconst 1, 1) := by decide +kernel
theorem dX7_image_30 : decode cX7_image 30 = .ok (.bastore, 1) := by decide +kernel
theorem dX7_image_31 : decode cX7_image 31 = .ok (.iconst 1, 1) := by decide +kernel
theorem dX7_image_32 : decode cX7_image 32 = .ok (.ireturn, 1) := by decide +kernel
theorem dX7_again_0 : decode cX7_again 0 = .ok (.aload_n 0, 1) := by decide +kernel
theorem dX7_again_1 : decode cX7_again 1 = .ok (.iconst 0, 1) := by decide +kernel
theorem dX7_again_2 : decode cX7_again 2 = .ok (.putfield 90, 3) := by decide +kernel
theorem dX7_again_5 : decode cX7_again 5 = .ok (.iload_n 1, 1) := by decide +kernel
theorem dX7_again_6 : decode cX7_again 6 = .ok (.iconst 0, 1) := by decide +kernel
theorem dX7_again_7 : decode cX7_again 7 = .ok (.iconst 2, 1) := by decide +kernel
theorem dX7_again_8 : decode cX7_again 8 = .ok (.invokestatic 98, 3) := by decide +kernel
theorem dX7_again_11 : decode cX7_again 11 = .ok (.ifCond .eq 12, 3) := by decide +kernel
theorem dX7_again_14 : decode cX7_again 14 = .ok (.aload_n 0, 1) := by decide +kernel
theorem dX7_again_15 : decode cX7_again 15 = .ok (.getfield 86, 3) := by decide +kernel
theorem dX7_again_18 : decode cX7_again 18 = .ok (.iload_n 1, 1) := by decide +kernel
theorem dX7_again_19 : decode cX7_again 19 = .ok (.baload, 1) := by decide +kernel
theorem dX7_again_20 : decode cX7_again 20 = .ok (.ifCond .ne 5, 3) := by decide +kernel
theorem dX7_again_23 : decode cX7_again 23 = .ok (.iconst 0, 1) := by decide +kernel
theorem dX7_again_24 : decode cX7_again 24 = .ok (.ireturn, 1) := by decide +kernel
theorem dX7_again_25 : decode cX7_again 25 = .ok (.aload_n 0, 1) := by decide +kernel
theorem dX7_again_26 : decode cX7_again 26 = .ok (.iload_n 1, 1) := by decide +kernel
theorem dX7_again_27 : decode cX7_again 27 = .ok (.iconst 1, 1) := by decide +kernel
theorem dX7_again_28 : decode cX7_again 28 = .ok (.iadd, 1) := by decide +kernel
theorem dX7_again_29 : decode cX7_again 29 = .ok (.iconst 0, 1) := by decide +kernel
theorem dX7_again_30 : decode cX7_again 30 = .ok (.invokevirtual 155, 3) := by decide +kernel
theorem dX7_again_33 : decode cX7_again 33 = .ok (.iconst 1, 1) := by decide +kernel
theorem dX7_again_34 : decode cX7_again 34 = .ok (.ireturn, 1) := by decide +kernel
end
section
theorem dL_law_0 : decode cL_law 0 = .ok (.new 7, 3) := by decide +kernel
theorem dL_law_3 : decode cL_law 3 = .ok (.dup, 1) := by decide +kernel
theorem dL_law_4 : decode cL_law 4 = .ok (.invokespecial 9, 3) := by decide +kernel
theorem dL_law_7 : decode cL_law 7 = .ok (.astore_n 1, 1) := by decide +kernel
theorem dL_law_8 : decode cL_law 8 = .ok (.new 10, 3) := by decide +kernel
theorem dL_law_11 : decode cL_law 11 = .ok (.dup, 1) := by decide +kernel
theorem dL_law_12 : decode cL_law 12 = .ok (.invokespecial 12, 3) := by decide +kernel
theorem dL_law_15 : decode cL_law 15 = .ok (.astore_n 2, 1) := by decide +kernel
theorem dL_law_16 : decode cL_law 16 = .ok (.iconst 0, 1) := by decide +kernel
theorem dL_law_17 : decode cL_law 17 = .ok (.istore_n 3, 1) := by decide +kernel
theorem dL_law_18 : decode cL_law 18 = .ok (.iload_n 3, 1) := by decide +kernel
theorem dL_law_19 : decode cL_law 19 = .ok (.aload_n 0, 1) := by decide +kernel
theorem dL_law_20 : decode cL_law 20 = .ok (.arraylength, 1) := by decide +kernel
theorem dL_law_21 : decode cL_law 21 = .ok (.bipush 6, 2) := by decide +kernel
theorem dL_law_23 : decode cL_law 23 = .ok (.isub, 1) := by decide +kernel
theorem dL_law_24 : decode cL_law 24 = .ok (.if_icmp .gt 966, 3) := by decide +kernel
theorem dL_law_27 : decode cL_law 27 = .ok (.aload_n 0, 1) := by decide +kernel
theorem dL_law_28 : decode cL_law 28 = .ok (.iload_n 3, 1) := by decide +kernel
theorem dL_law_29 : decode cL_law 29 = .ok (.iaload, 1) := by decide +kernel
theorem dL_law_30 : decode cL_law 30 = .ok (.bipush 31, 2) := by decide +kernel
theorem dL_law_32 : decode cL_law 32 = .ok (.iand, 1) := by decide +kernel
theorem dL_law_33 : decode cL_law 33 = .ok (.tableswitch 951 0 25 #[119, 152, 185, 218, 251, 274, 307, 331, 344, 368, 411, 444, 467, 480, 533, 596, 629, 663, 706, 730, 753, 816, 839, 872, 905, 928], 119) := by decide +kernel
theorem dL_law_152 : decode cL_law 152 = .ok (.aload_n 1, 1) := by decide +kernel
theorem dL_law_153 : decode cL_law 153 = .ok (.aload_n 0, 1) := by decide +kernel
theorem dL_law_154 : decode cL_law 154 = .ok (.iload_n 3, 1) := by decide +kernel
theorem dL_law_155 : decode cL_law 155 = .ok (.iconst 1, 1) := by decide +kernel
theorem dL_law_156 : decode cL_law 156 = .ok (.iadd, 1) := by decide +kernel
theorem dL_law_157 : decode cL_law 157 = .ok (.iaload, 1) := by decide +kernel
theorem dL_law_158 : decode cL_law 158 = .ok (.aload_n 0, 1) := by decide +kernel
theorem dL_law_159 : decode cL_law 159 = .ok (.iload_n 3, 1) := by decide +kernel
theorem dL_law_160 : decode cL_law 160 = .ok (.iconst 2, 1) := by decide +kernel
theorem dL_law_161 : decode cL_law 161 = .ok (.iadd, 1) := by decide +kernel
theorem dL_law_162 : decode cL_law 162 = .ok (.iaload, 1) := by decide +kernel
theorem dL_law_163 : decode cL_law 163 = .ok (.invokevirtual 13, 3) := by decide +kernel
theorem dL_law_166 : decode cL_law 166 = .ok (.aload_n 2, 1) := by decide +kernel
theorem dL_law_167 : decode cL_law 167 = .ok (.aload_n 0, 1) := by decide +kernel
theorem dL_law_168 : decode cL_law 168 = .ok (.iload_n 3, 1) := by decide +kernel
theorem dL_law_169 : decode cL_law 169 = .ok (.iconst 1, 1) := by decide +kernel
theorem dL_law_170 : decode cL_law 170 = .ok (.iadd, 1) := by decide +kernel
theorem dL_law_171 : decode cL_law 171 = .ok (.iaload, 1) := by decide +kernel
theorem dL_law_172 : decode cL_law 172 = .ok (.aload_n 0, 1) := by decide +kernel
theorem dL_law_173 : decode cL_law 173 = .ok (.iload_n 3, 1) := by decide +kernel
theorem dL_law_174 : decode cL_law 174 = .ok (.iconst 2, 1) := by decide +kernel
theorem dL_law_175 : decode cL_law 175 = .ok (.iadd, 1) := by decide +kernel
theorem dL_law_176 : decode cL_law 176 = .ok (.iaload, 1) := by decide +kernel
theorem dL_law_177 : decode cL_law 177 = .ok (.invokevirtual 17, 3) := by decide +kernel
theorem dL_law_180 : decode cL_law 180 = .ok (.if_icmp .eq 804, 3) := by decide +kernel
theorem dL_law_183 : decode cL_law 183 = .ok (.iconst 0, 1) := by decide +kernel
theorem dL_law_184 : decode cL_law 184 = .ok (.ireturn, 1) := by decide +kernel
theorem dL_law_185 : decode cL_law 185 = .ok (.aload_n 1, 1) := by decide +kernel
theorem dL_law_186 : decode cL_law 186 = .ok (.aload_n 0, 1) := by decide +kernel
theorem dL_law_187 : decode cL_law 187 = .ok (.iload_n 3, 1) := by decide +kernel
theorem dL_law_188 : decode cL_law 188 = .ok (.iconst 1, 1) := by decide +kernel
theorem dL_law_189 : decode cL_law 189 = .ok (.iadd, 1) := by decide +kernel
theorem dL_law_190 : decode cL_law 190 = .ok (.iaload, 1) := by decide +kernel
theorem dL_law_191 : decode cL_law 191 = .ok (.aload_n 0, 1) := by decide +kernel
theorem dL_law_192 : decode cL_law 192 = .ok (.iload_n 3, 1) := by decide +kernel
theorem dL_law_193 : decode cL_law 193 = .ok (.iconst 2, 1) := by decide +kernel
theorem dL_law_194 : decode cL_law 194 = .ok (.iadd, 1) := by decide +kernel
theorem dL_law_195 : decode cL_law 195 = .ok (.iaload, 1) := by decide +kernel
theorem dL_law_196 : decode cL_law 196 = .ok (.invokevirtual 18, 3) := by decide +kernel
theorem dL_law_199 : decode cL_law 199 = .ok (.aload_n 2, 1) := by decide +kernel
theorem dL_law_200 : decode cL_law 200 = .ok (.aload_n 0, 1) := by decide +kernel
theorem dL_law_201 : decode cL_law 201 = .ok (.iload_n 3, 1) := by decide +kernel
theorem dL_law_202 : decode cL_law 202 = .ok (.iconst 1, 1) := by decide +kernel
theorem dL_law_203 : decode cL_law 203 = .ok (.iadd, 1) := by decide +kernel
theorem dL_law_204 : decode cL_law 204 = .ok (.iaload, 1) := by decide +kernel
theorem dL_law_205 : decode cL_law 205 = .ok (.aload_n 0, 1) := by decide +kernel
theorem dL_law_206 : decode cL_law 206 = .ok (.iload_n 3, 1) := by decide +kernel
theorem dL_law_207 : decode cL_law 207 = .ok (.iconst 2, 1) := by decide +kernel
theorem dL_law_208 : decode cL_law 208 = .ok (.iadd, 1) := by decide +kernel
theorem dL_law_209 : decode cL_law 209 = .ok (.iaload, 1) := by decide +kernel
theorem dL_law_210 : decode cL_law 210 = .ok (.invokevirtual 22, 3) := by decide +kernel
theorem dL_law_213 : decode cL_law 213 = .ok (.if_icmp .eq 771, 3) := by decide +kernel
theorem dL_law_216 : decode cL_law 216 = .ok (.iconst 0, 1) := by decide +kernel
theorem dL_law_217 : decode cL_law 217 = .ok (.ireturn, 1) := by decide +kernel
theorem dL_law_218 : decode cL_law 218 = .ok (.aload_n 1, 1) := by decide +kernel
theorem dL_law_219 : decode cL_law 219 = .ok (.aload_n 0, 1) := by decide +kernel
theorem dL_law_220 : decode cL_law 220 = .ok (.iload_n 3, 1) := by decide +kernel
theorem dL_law_221 : decode cL_law 221 = .ok (.iconst 1, 1) := by decide +kernel
theorem dL_law_222 : decode cL_law 222 = .ok (.iadd, 1) := by decide +kernel
theorem dL_law_223 : decode cL_law 223 = .ok (.iaload, 1) := by decide +kernel
theorem dL_law_224 : decode cL_law 224 = .ok (.aload_n 0, 1) := by decide +kernel
theorem dL_law_225 : decode cL_law 225 = .ok (.iload_n 3, 1) := by decide +kernel
theorem dL_law_226 : decode cL_law 226 = .ok (.iconst 2, 1) := by decide +kernel
theorem dL_law_227 : decode cL_law 227 = .ok (.iadd, 1) := by decide +kernel
theorem dL_law_228 : decode cL_law 228 = .ok (.iaload, 1) := by decide +kernel
theorem dL_law_229 : decode cL_law 229 = .ok (.invokevirtual 23, 3) := by decide +kernel
theorem dL_law_232 : decode cL_law 232 = .ok (.aload_n 2, 1) := by decide +kernel
theorem dL_law_233 : decode cL_law 233 = .ok (.aload_n 0, 1) := by decide +kernel
theorem dL_law_234 : decode cL_law 234 = .ok (.iload_n 3, 1) := by decide +kernel
theorem dL_law_235 : decode cL_law 235 = .ok (.iconst 1, 1) := by decide +kernel
theorem dL_law_236 : decode cL_law 236 = .ok (.iadd, 1) := by decide +kernel
theorem dL_law_237 : decode cL_law 237 = .ok (.iaload, 1) := by decide +kernel
theorem dL_law_238 : decode cL_law 238 = .ok (.aload_n 0, 1) := by decide +kernel
theorem dL_law_239 : decode cL_law 239 = .ok (.iload_n 3, 1) := by decide +kernel
theorem dL_law_240 : decode cL_law 240 = .ok (.iconst 2, 1) := by decide +kernel
theorem dL_law_241 : decode cL_law 241 = .ok (.iadd, 1) := by decide +kernel
theorem dL_law_242 : decode cL_law 242 = .ok (.iaload, 1) := by decide +kernel
theorem dL_law_243 : decode cL_law 243 = .ok (.invokevirtual 26, 3) := by decide +kernel
theorem dL_law_246 : decode cL_law 246 = .ok (.if_icmp .eq 738, 3) := by decide +kernel
theorem dL_law_249 : decode cL_law 249 = .ok (.iconst 0, 1) := by decide +kernel
theorem dL_law_250 : decode cL_law 250 = .ok (.ireturn, 1) := by decide +kernel
theorem dL_law_251 : decode cL_law 251 = .ok (.aload_n 1, 1) := by decide +kernel
theorem dL_law_252 : decode cL_law 252 = .ok (.aload_n 0, 1) := by decide +kernel
theorem dL_law_253 : decode cL_law 253 = .ok (.iload_n 3, 1) := by decide +kernel
theorem dL_law_254 : decode cL_law 254 = .ok (.iconst 1, 1) := by decide +kernel
theorem dL_law_255 : decode cL_law 255 = .ok (.iadd, 1) := by decide +kernel
theorem dL_law_256 : decode cL_law 256 = .ok (.iaload, 1) := by decide +kernel
theorem dL_law_257 : decode cL_law 257 = .ok (.aload_n 0, 1) := by decide +kernel
theorem dL_law_258 : decode cL_law 258 = .ok (.iload_n 3, 1) := by decide +kernel
theorem dL_law_259 : decode cL_law 259 = .ok (.iconst 2, 1) := by decide +kernel
theorem dL_law_260 : decode cL_law 260 = .ok (.iadd, 1) := by decide +kernel
theorem dL_law_261 : decode cL_law 261 = .ok (.iaload, 1) := by decide +kernel
theorem dL_law_262 : decode cL_law 262 = .ok (.invokevirtual 27, 3) := by decide +kernel
theorem dL_law_265 : decode cL_law 265 = .ok (.aload_n 2, 1) := by decide +kernel
theorem dL_law_266 : decode cL_law 266 = .ok (.aload_n 0, 1) := by decide +kernel
theorem dL_law_267 : decode cL_law 267 = .ok (.iload_n 3, 1) := by decide +kernel
theorem dL_law_268 : decode cL_law 268 = .ok (.iconst 1, 1) := by decide +kernel
theorem dL_law_269 : decode cL_law 269 = .ok (.iadd, 1) := by decide +kernel
theorem dL_law_270 : decode cL_law 270 = .ok (.iaload, 1) := by decide +kernel
theorem dL_law_271 : decode cL_law 271 = .ok (.aload_n 0, 1) := by decide +kernel
theorem dL_law_272 : decode cL_law 272 = .ok (.iload_n 3, 1) := by decide +kernel
theorem dL_law_273 : decode cL_law 273 = .ok (.iconst 2, 1) := by decide +kernel
theorem dL_law_274 : decode cL_law 274 = .ok (.iadd, 1) := by decide +kernel
theorem dL_law_275 : decode cL_law 275 = .ok (.iaload, 1) := by decide +kernel
theorem dL_law_276 : decode cL_law 276 = .ok (.invokevirtual 30, 3) := by decide +kernel
theorem dL_law_279 : decode cL_law 279 = .ok (.if_icmp .eq 705, 3) := by decide +kernel
theorem dL_law_282 : decode cL_law 282 = .ok (.iconst 0, 1) := by decide +kernel
theorem dL_law_283 : decode cL_law 283 = .ok (.ireturn, 1) := by decide +kernel
theorem dL_law_284 : decode cL_law 284 = .ok (.aload_n 1, 1) := by decide +kernel
theorem dL_law_285 : decode cL_law 285 = .ok (.aload_n 0, 1) := by decide +kernel
theorem dL_law_286 : decode cL_law 286 = .ok (.iload_n 3, 1) := by decide +kernel
theorem dL_law_287 : decode cL_law 287 = .ok (.iconst 1, 1) := by decide +kernel
theorem dL_law_288 : decode cL_law 288 = .ok (.iadd, 1) := by decide +kernel
theorem dL_law_289 : decode cL_law 289 = .ok (.iaload, 1) := by decide +kernel
theorem dL_law_290 : decode cL_law 290 = .ok (.invokevirtual 31, 3) := by decide +kernel
theorem dL_law_293 : decode cL_law 293 = .ok (.aload_n 2, 1) := by decide +kernel
theorem dL_law_294 : decode cL_law 294 = .ok (.aload_n 0, 1) := by decide +kernel
theorem dL_law_295 : decode cL_law 295 = .ok (.iload_n 3, 1) := by decide +kernel
theorem dL_law_296 : decode cL_law 296 = .ok (.iconst 1, 1) := by decide +kernel
theorem dL_law_297 : decode cL_law 297 = .ok (.iadd, 1) := by decide +kernel
theorem dL_law_298 : decode cL_law 298 = .ok (.iaload, 1) := by decide +kernel
theorem dL_law_299 : decode cL_law 299 = .ok (.invokevirtual 35, 3) := by decide +kernel
theorem dL_law_302 : decode cL_law 302 = .ok (.if_icmp .eq 682, 3) := by decide +kernel
theorem dL_law_305 : decode cL_law 305 = .ok (.iconst 0, 1) := by decide +kernel
theorem dL_law_306 : decode cL_law 306 = .ok (.ireturn, 1) := by decide +kernel
theorem dL_law_307 : decode cL_law 307 = .ok (.aload_n 1, 1) := by decide +kernel
theorem dL_law_308 : decode cL_law 308 = .ok (.aload_n 0, 1) := by decide +kernel
theorem dL_law_309 : decode cL_law 309 = .ok (.iload_n 3, 1) := by decide +kernel
theorem dL_law_310 : decode cL_law 310 = .ok (.iconst 1, 1) := by decide +kernel
theorem dL_law_311 : decode cL_law 311 = .ok (.iadd, 1) := by decide +kernel
theorem dL_law_312 : decode cL_law 312 = .ok (.iaload, 1) := by decide +kernel
theorem dL_law_313 : decode cL_law 313 = .ok (.aload_n 0, 1) := by decide +kernel
theorem dL_law_314 : decode cL_law 314 = .ok (.iload_n 3, 1) := by decide +kernel
theorem dL_law_315 : decode cL_law 315 = .ok (.iconst 2, 1) := by decide +kernel
theorem dL_law_316 : decode cL_law 316 = .ok (.iadd, 1) := by decide +kernel
theorem dL_law_317 : decode cL_law 317 = .ok (.iaload, 1) := by decide +kernel
theorem dL_law_318 : decode cL_law 318 = .ok (.invokevirtual 36, 3) := by decide +kernel
theorem dL_law_321 : decode cL_law 321 = .ok (.aload_n 2, 1) := by decide +kernel
theorem dL_law_322 : decode cL_law 322 = .ok (.aload_n 0, 1) := by decide +kernel
theorem dL_law_323 : decode cL_law 323 = .ok (.iload_n 3, 1) := by decide +kernel
theorem dL_law_324 : decode cL_law 324 = .ok (.iconst 1, 1) := by decide +kernel
theorem dL_law_325 : decode cL_law 325 = .ok (.iadd, 1) := by decide +kernel
theorem dL_law_326 : decode cL_law 326 = .ok (.iaload, 1) := by decide +kernel
theorem dL_law_327 : decode cL_law 327 = .ok (.aload_n 0, 1) := by decide +kernel
theorem dL_law_328 : decode cL_law 328 = .ok (.iload_n 3, 1) := by decide +kernel
theorem dL_law_329 : decode cL_law 329 = .ok (.iconst 2, 1) := by decide +kernel
theorem dL_law_330 : decode cL_law 330 = .ok (.iadd, 1) := by decide +kernel
theorem dL_law_331 : decode cL_law 331 = .ok (.iaload, 1) := by decide +kernel
theorem dL_law_332 : decode cL_law 332 = .ok (.invokevirtual 39, 3) := by decide +kernel
theorem dL_law_335 : decode cL_law 335 = .ok (.if_icmp .eq 649, 3) := by decide +kernel
theorem dL_law_338 : decode cL_law 338 = .ok (.iconst 0, 1) := by decide +kernel
theorem dL_law_339 : decode cL_law 339 = .ok (.ireturn, 1) := by decide +kernel
theorem dL_law_340 : decode cL_law 340 = .ok (.aload_n 1, 1) := by decide +kernel
theorem dL_law_341 : decode cL_law 341 = .ok (.aload_n 0, 1) := by decide +kernel
theorem dL_law_342 : decode cL_law 342 = .ok (.iload_n 3, 1) := by decide +kernel
theorem dL_law_343 : decode cL_law 343 = .ok (.iconst 1, 1) := by decide +kernel
theorem dL_law_344 : decode cL_law 344 = .ok (.iadd, 1) := by decide +kernel
theorem dL_law_345 : decode cL_law 345 = .ok (.iaload, 1) := by decide +kernel
theorem dL_law_346 : decode cL_law 346 = .ok (.invokevirtual 40, 3) := by decide +kernel
theorem dL_law_349 : decode cL_law 349 = .ok (.aload_n 2, 1) := by decide +kernel
theorem dL_law_350 : decode cL_law 350 = .ok (.aload_n 0, 1) := by decide +kernel
theorem dL_law_351 : decode cL_law 351 = .ok (.iload_n 3, 1) := by decide +kernel
theorem dL_law_352 : decode cL_law 352 = .ok (.iconst 1, 1) := by decide +kernel
theorem dL_law_353 : decode cL_law 353 = .ok (.iadd, 1) := by decide +kernel
theorem dL_law_354 : decode cL_law 354 = .ok (.iaload, 1) := by decide +kernel
theorem dL_law_355 : decode cL_law 355 = .ok (.invokevirtual 44, 3) := by decide +kernel
theorem dL_law_358 : decode cL_law 358 = .ok (.lcmp, 1) := by decide +kernel
theorem dL_law_359 : decode cL_law 359 = .ok (.ifCond .eq 625, 3) := by decide +kernel
theorem dL_law_362 : decode cL_law 362 = .ok (.iconst 0, 1) := by decide +kernel
theorem dL_law_363 : decode cL_law 363 = .ok (.ireturn, 1) := by decide +kernel
theorem dL_law_364 : decode cL_law 364 = .ok (.aload_n 1, 1) := by decide +kernel
theorem dL_law_365 : decode cL_law 365 = .ok (.invokevirtual 45, 3) := by decide +kernel
theorem dL_law_368 : decode cL_law 368 = .ok (.aload_n 2, 1) := by decide +kernel
theorem dL_law_369 : decode cL_law 369 = .ok (.invokevirtual 49, 3) := by decide +kernel
theorem dL_law_372 : decode cL_law 372 = .ok (.if_icmp .eq 612, 3) := by decide +kernel
theorem dL_law_375 : decode cL_law 375 = .ok (.iconst 0, 1) := by decide +kernel
theorem dL_law_376 : decode cL_law 376 = .ok (.ireturn, 1) := by decide +kernel
theorem dL_law_377 : decode cL_law 377 = .ok (.aload_n 1, 1) := by decide +kernel
theorem dL_law_378 : decode cL_law 378 = .ok (.aload_n 0, 1) := by decide +kernel
theorem dL_law_379 : decode cL_law 379 = .ok (.iload_n 3, 1) := by decide +kernel
theorem dL_law_380 : decode cL_law 380 = .ok (.iconst 1, 1) := by decide +kernel
theorem dL_law_381 : decode cL_law 381 = .ok (.iadd, 1) := by decide +kernel
theorem dL_law_382 : decode cL_law 382 = .ok (.iaload, 1) := by decide +kernel
theorem dL_law_383 : decode cL_law 383 = .ok (.invokevirtual 50, 3) := by decide +kernel
theorem dL_law_386 : decode cL_law 386 = .ok (.aload_n 2, 1) := by decide +kernel
theorem dL_law_387 : decode cL_law 387 = .ok (.aload_n 0, 1) := by decide +kernel
theorem dL_law_388 : decode cL_law 388 = .ok (.iload_n 3, 1) := by decide +kernel
theorem dL_law_389 : decode cL_law 389 = .ok (.iconst 1, 1) := by decide +kernel
theorem dL_law_390 : decode cL_law 390 = .ok (.iadd, 1) := by decide +kernel
theorem dL_law_391 : decode cL_law 391 = .ok (.iaload, 1) := by decide +kernel
theorem dL_law_392 : decode cL_law 392 = .ok (.invokevirtual 53, 3) := by decide +kernel
theorem dL_law_395 : decode cL_law 395 = .ok (.lcmp, 1) := by decide +kernel
theorem dL_law_396 : decode cL_law 396 = .ok (.ifCond .eq 588, 3) := by decide +kernel
theorem dL_law_399 : decode cL_law 399 = .ok (.iconst 0, 1) := by decide +kernel
theorem dL_law_400 : decode cL_law 400 = .ok (.ireturn, 1) := by decide +kernel
theorem dL_law_401 : decode cL_law 401 = .ok (.aload_n 1, 1) := by decide +kernel
theorem dL_law_402 : decode cL_law 402 = .ok (.aload_n 0, 1) := by decide +kernel
theorem dL_law_403 : decode cL_law 403 = .ok (.iload_n 3, 1) := by decide +kernel
theorem dL_law_404 : decode cL_law 404 = .ok (.iconst 1, 1) := by decide +kernel
theorem dL_law_405 : decode cL_law 405 = .ok (.iadd, 1) := by decide +kernel
theorem dL_law_406 : decode cL_law 406 = .ok (.iaload, 1) := by decide +kernel
theorem dL_law_407 : decode cL_law 407 = .ok (.aload_n 0, 1) := by decide +kernel
theorem dL_law_408 : decode cL_law 408 = .ok (.iload_n 3, 1) := by decide +kernel
theorem dL_law_409 : decode cL_law 409 = .ok (.iconst 2, 1) := by decide +kernel
theorem dL_law_410 : decode cL_law 410 = .ok (.iadd, 1) := by decide +kernel
theorem dL_law_411 : decode cL_law 411 = .ok (.iaload, 1) := by decide +kernel
theorem dL_law_412 : decode cL_law 412 = .ok (.aload_n 0, 1) := by decide +kernel
theorem dL_law_413 : decode cL_law 413 = .ok (.iload_n 3, 1) := by decide +kernel
theorem dL_law_414 : decode cL_law 414 = .ok (.iconst 3, 1) := by decide +kernel
theorem dL_law_415 : decode cL_law 415 = .ok (.iadd, 1) := by decide +kernel
theorem dL_law_416 : decode cL_law 416 = .ok (.iaload, 1) := by decide +kernel
theorem dL_law_417 : decode cL_law 417 = .ok (.invokevirtual 54, 3) := by decide +kernel
theorem dL_law_420 : decode cL_law 420 = .ok (.aload_n 2, 1) := by decide +kernel
theorem dL_law_421 : decode cL_law 421 = .ok (.aload_n 0, 1) := by decide +kernel
theorem dL_law_422 : decode cL_law 422 = .ok (.iload_n 3, 1) := by decide +kernel
theorem dL_law_423 : decode cL_law 423 = .ok (.iconst 1, 1) := by decide +kernel
theorem dL_law_424 : decode cL_law 424 = .ok (.iadd, 1) := by decide +kernel
theorem dL_law_425 : decode cL_law 425 = .ok (.iaload, 1) := by decide +kernel
theorem dL_law_426 : decode cL_law 426 = .ok (.aload_n 0, 1) := by decide +kernel
theorem dL_law_427 : decode cL_law 427 = .ok (.iload_n 3, 1) := by decide +kernel
theorem dL_law_428 : decode cL_law 428 = .ok (.iconst 2, 1) := by decide +kernel
theorem dL_law_429 : decode cL_law 429 = .ok (.iadd, 1) := by decide +kernel
theorem dL_law_430 : decode cL_law 430 = .ok (.iaload, 1) := by decide +kernel
theorem dL_law_431 : decode cL_law 431 = .ok (.aload_n 0, 1) := by decide +kernel
theorem dL_law_432 : decode cL_law 432 = .ok (.iload_n 3, 1) := by decide +kernel
theorem dL_law_433 : decode cL_law 433 = .ok (.iconst 3, 1) := by decide +kernel
theorem dL_law_434 : decode cL_law 434 = .ok (.iadd, 1) := by decide +kernel
theorem dL_law_435 : decode cL_law 435 = .ok (.iaload, 1) := by decide +kernel
theorem dL_law_436 : decode cL_law 436 = .ok (.invokevirtual 58, 3) := by decide +kernel
theorem dL_law_439 : decode cL_law 439 = .ok (.if_icmp .eq 545, 3) := by decide +kernel
theorem dL_law_442 : decode cL_law 442 = .ok (.iconst 0, 1) := by decide +kernel
theorem dL_law_443 : decode cL_law 443 = .ok (.ireturn, 1) := by decide +kernel
theorem dL_law_444 : decode cL_law 444 = .ok (.aload_n 1, 1) := by decide +kernel
theorem dL_law_445 : decode cL_law 445 = .ok (.aload_n 0, 1) := by decide +kernel
theorem dL_law_446 : decode cL_law 446 = .ok (.iload_n 3, 1) := by decide +kernel
theorem dL_law_447 : decode cL_law 447 = .ok (.iconst 1, 1) := by decide +kernel
theorem dL_law_448 : decode cL_law 448 = .ok (.iadd, 1) := by decide +kernel
theorem dL_law_449 : decode cL_law 449 = .ok (.iaload, 1) := by decide +kernel
theorem dL_law_450 : decode cL_law 450 = .ok (.aload_n 0, 1) := by decide +kernel
theorem dL_law_451 : decode cL_law 451 = .ok (.iload_n 3, 1) := by decide +kernel
theorem dL_law_452 : decode cL_law 452 = .ok (.iconst 2, 1) := by decide +kernel
theorem dL_law_453 : decode cL_law 453 = .ok (.iadd, 1) := by decide +kernel
theorem dL_law_454 : decode cL_law 454 = .ok (.iaload, 1) := by decide +kernel
theorem dL_law_455 : decode cL_law 455 = .ok (.invokevirtual 59, 3) := by decide +kernel
theorem dL_law_458 : decode cL_law 458 = .ok (.aload_n 2, 1) := by decide +kernel
theorem dL_law_459 : decode cL_law 459 = .ok (.aload_n 0, 1) := by decide +kernel
theorem dL_law_460 : decode cL_law 460 = .ok (.iload_n 3, 1) := by decide +kernel
theorem dL_law_461 : decode cL_law 461 = .ok (.iconst 1, 1) := by decide +kernel
theorem dL_law_462 : decode cL_law 462 = .ok (.iadd, 1) := by decide +kernel
theorem dL_law_463 : decode cL_law 463 = .ok (.iaload, 1) := by decide +kernel
theorem dL_law_464 : decode cL_law 464 = .ok (.aload_n 0, 1) := by decide +kernel
theorem dL_law_465 : decode cL_law 465 = .ok (.iload_n 3, 1) := by decide +kernel
theorem dL_law_466 : decode cL_law 466 = .ok (.iconst 2, 1) := by decide +kernel
theorem dL_law_467 : decode cL_law 467 = .ok (.iadd, 1) := by decide +kernel
theorem dL_law_468 : decode cL_law 468 = .ok (.iaload, 1) := by decide +kernel
theorem dL_law_469 : decode cL_law 469 = .ok (.invokevirtual 62, 3) := by decide +kernel
theorem dL_law_472 : decode cL_law 472 = .ok (.if_icmp .eq 512, 3) := by decide +kernel
theorem dL_law_475 : decode cL_law 475 = .ok (.iconst 0, 1) := by decide +kernel
theorem dL_law_476 : decode cL_law 476 = .ok (.ireturn, 1) := by decide +kernel
theorem dL_law_477 : decode cL_law 477 = .ok (.aload_n 1, 1) := by decide +kernel
theorem dL_law_478 : decode cL_law 478 = .ok (.aload_n 0, 1) := by decide +kernel
theorem dL_law_479 : decode cL_law 479 = .ok (.iload_n 3, 1) := by decide +kernel
theorem dL_law_480 : decode cL_law 480 = .ok (.iconst 1, 1) := by decide +kernel
theorem dL_law_481 : decode cL_law 481 = .ok (.iadd, 1) := by decide +kernel
theorem dL_law_482 : decode cL_law 482 = .ok (.iaload, 1) := by decide +kernel
theorem dL_law_483 : decode cL_law 483 = .ok (.invokevirtual 63, 3) := by decide +kernel
theorem dL_law_486 : decode cL_law 486 = .ok (.aload_n 2, 1) := by decide +kernel
theorem dL_law_487 : decode cL_law 487 = .ok (.aload_n 0, 1) := by decide +kernel
theorem dL_law_488 : decode cL_law 488 = .ok (.iload_n 3, 1) := by decide +kernel
theorem dL_law_489 : decode cL_law 489 = .ok (.iconst 1, 1) := by decide +kernel
theorem dL_law_490 : decode cL_law 490 = .ok (.iadd, 1) := by decide +kernel
theorem dL_law_491 : decode cL_law 491 = .ok (.iaload, 1) := by decide +kernel
theorem dL_law_492 : decode cL_law 492 = .ok (.invokevirtual 67, 3) := by decide +kernel
theorem dL_law_495 : decode cL_law 495 = .ok (.if_icmp .eq 489, 3) := by decide +kernel
theorem dL_law_498 : decode cL_law 498 = .ok (.iconst 0, 1) := by decide +kernel
theorem dL_law_499 : decode cL_law 499 = .ok (.ireturn, 1) := by decide +kernel
theorem dL_law_500 : decode cL_law 500 = .ok (.aload_n 1, 1) := by decide +kernel
theorem dL_law_501 : decode cL_law 501 = .ok (.invokevirtual 68, 3) := by decide +kernel
theorem dL_law_504 : decode cL_law 504 = .ok (.aload_n 2, 1) := by decide +kernel
theorem dL_law_505 : decode cL_law 505 = .ok (.invokevirtual 71, 3) := by decide +kernel
theorem dL_law_508 : decode cL_law 508 = .ok (.if_icmp .eq 476, 3) := by decide +kernel
theorem dL_law_511 : decode cL_law 511 = .ok (.iconst 0, 1) := by decide +kernel
theorem dL_law_512 : decode cL_law 512 = .ok (.ireturn, 1) := by decide +kernel
theorem dL_law_513 : decode cL_law 513 = .ok (.aload_n 1, 1) := by decide +kernel
theorem dL_law_514 : decode cL_law 514 = .ok (.aload_n 0, 1) := by decide +kernel
theorem dL_law_515 : decode cL_law 515 = .ok (.iload_n 3, 1) := by decide +kernel
theorem dL_law_516 : decode cL_law 516 = .ok (.iconst 1, 1) := by decide +kernel
theorem dL_law_517 : decode cL_law 517 = .ok (.iadd, 1) := by decide +kernel
theorem dL_law_518 : decode cL_law 518 = .ok (.iaload, 1) := by decide +kernel
theorem dL_law_519 : decode cL_law 519 = .ok (.aload_n 0, 1) := by decide +kernel
theorem dL_law_520 : decode cL_law 520 = .ok (.iload_n 3, 1) := by decide +kernel
theorem dL_law_521 : decode cL_law 521 = .ok (.iconst 2, 1) := by decide +kernel
theorem dL_law_522 : decode cL_law 522 = .ok (.iadd, 1) := by decide +kernel
theorem dL_law_523 : decode cL_law 523 = .ok (.iaload, 1) := by decide +kernel
theorem dL_law_524 : decode cL_law 524 = .ok (.aload_n 0, 1) := by decide +kernel
theorem dL_law_525 : decode cL_law 525 = .ok (.iload_n 3, 1) := by decide +kernel
theorem dL_law_526 : decode cL_law 526 = .ok (.iconst 3, 1) := by decide +kernel
theorem dL_law_527 : decode cL_law 527 = .ok (.iadd, 1) := by decide +kernel
theorem dL_law_528 : decode cL_law 528 = .ok (.iaload, 1) := by decide +kernel
theorem dL_law_529 : decode cL_law 529 = .ok (.aload_n 0, 1) := by decide +kernel
theorem dL_law_530 : decode cL_law 530 = .ok (.iload_n 3, 1) := by decide +kernel
theorem dL_law_531 : decode cL_law 531 = .ok (.iconst 4, 1) := by decide +kernel
theorem dL_law_532 : decode cL_law 532 = .ok (.iadd, 1) := by decide +kernel
theorem dL_law_533 : decode cL_law 533 = .ok (.iaload, 1) := by decide +kernel
theorem dL_law_534 : decode cL_law 534 = .ok (.invokevirtual 72, 3) := by decide +kernel
theorem dL_law_537 : decode cL_law 537 = .ok (.aload_n 2, 1) := by decide +kernel
theorem dL_law_538 : decode cL_law 538 = .ok (.aload_n 0, 1) := by decide +kernel
theorem dL_law_539 : decode cL_law 539 = .ok (.iload_n 3, 1) := by decide +kernel
theorem dL_law_540 : decode cL_law 540 = .ok (.iconst 1, 1) := by decide +kernel
theorem dL_law_541 : decode cL_law 541 = .ok (.iadd, 1) := by decide +kernel
theorem dL_law_542 : decode cL_law 542 = .ok (.iaload, 1) := by decide +kernel
theorem dL_law_543 : decode cL_law 543 = .ok (.aload_n 0, 1) := by decide +kernel
theorem dL_law_544 : decode cL_law 544 = .ok (.iload_n 3, 1) := by decide +kernel
theorem dL_law_545 : decode cL_law 545 = .ok (.iconst 2, 1) := by decide +kernel
theorem dL_law_546 : decode cL_law 546 = .ok (.iadd, 1) := by decide +kernel
theorem dL_law_547 : decode cL_law 547 = .ok (.iaload, 1) := by decide +kernel
theorem dL_law_548 : decode cL_law 548 = .ok (.aload_n 0, 1) := by decide +kernel
theorem dL_law_549 : decode cL_law 549 = .ok (.iload_n 3, 1) := by decide +kernel
theorem dL_law_550 : decode cL_law 550 = .ok (.iconst 3, 1) := by decide +kernel
theorem dL_law_551 : decode cL_law 551 = .ok (.iadd, 1) := by decide +kernel
theorem dL_law_552 : decode cL_law 552 = .ok (.iaload, 1) := by decide +kernel
theorem dL_law_553 : decode cL_law 553 = .ok (.aload_n 0, 1) := by decide +kernel
theorem dL_law_554 : decode cL_law 554 = .ok (.iload_n 3, 1) := by decide +kernel
theorem dL_law_555 : decode cL_law 555 = .ok (.iconst 4, 1) := by decide +kernel
theorem dL_law_556 : decode cL_law 556 = .ok (.iadd, 1) := by decide +kernel
theorem dL_law_557 : decode cL_law 557 = .ok (.iaload, 1) := by decide +kernel
theorem dL_law_558 : decode cL_law 558 = .ok (.invokevirtual 76, 3) := by decide +kernel
theorem dL_law_561 : decode cL_law 561 = .ok (.if_icmp .eq 423, 3) := by decide +kernel
theorem dL_law_564 : decode cL_law 564 = .ok (.iconst 0, 1) := by decide +kernel
theorem dL_law_565 : decode cL_law 565 = .ok (.ireturn, 1) := by decide +kernel
theorem dL_law_566 : decode cL_law 566 = .ok (.aload_n 1, 1) := by decide +kernel
theorem dL_law_567 : decode cL_law 567 = .ok (.aload_n 0, 1) := by decide +kernel
theorem dL_law_568 : decode cL_law 568 = .ok (.iload_n 3, 1) := by decide +kernel
theorem dL_law_569 : decode cL_law 569 = .ok (.iconst 1, 1) := by decide +kernel
theorem dL_law_570 : decode cL_law 570 = .ok (.iadd, 1) := by decide +kernel
theorem dL_law_571 : decode cL_law 571 = .ok (.iaload, 1) := by decide +kernel
theorem dL_law_572 : decode cL_law 572 = .ok (.aload_n 0, 1) := by decide +kernel
theorem dL_law_573 : decode cL_law 573 = .ok (.iload_n 3, 1) := by decide +kernel
theorem dL_law_574 : decode cL_law 574 = .ok (.iconst 2, 1) := by decide +kernel
theorem dL_law_575 : decode cL_law 575 = .ok (.iadd, 1) := by decide +kernel
theorem dL_law_576 : decode cL_law 576 = .ok (.iaload, 1) := by decide +kernel
theorem dL_law_577 : decode cL_law 577 = .ok (.aload_n 0, 1) := by decide +kernel
theorem dL_law_578 : decode cL_law 578 = .ok (.iload_n 3, 1) := by decide +kernel
theorem dL_law_579 : decode cL_law 579 = .ok (.iconst 3, 1) := by decide +kernel
theorem dL_law_580 : decode cL_law 580 = .ok (.iadd, 1) := by decide +kernel
theorem dL_law_581 : decode cL_law 581 = .ok (.iaload, 1) := by decide +kernel
theorem dL_law_582 : decode cL_law 582 = .ok (.aload_n 0, 1) := by decide +kernel
theorem dL_law_583 : decode cL_law 583 = .ok (.iload_n 3, 1) := by decide +kernel
theorem dL_law_584 : decode cL_law 584 = .ok (.iconst 4, 1) := by decide +kernel
theorem dL_law_585 : decode cL_law 585 = .ok (.iadd, 1) := by decide +kernel
theorem dL_law_586 : decode cL_law 586 = .ok (.iaload, 1) := by decide +kernel
theorem dL_law_587 : decode cL_law 587 = .ok (.aload_n 0, 1) := by decide +kernel
theorem dL_law_588 : decode cL_law 588 = .ok (.iload_n 3, 1) := by decide +kernel
theorem dL_law_589 : decode cL_law 589 = .ok (.iconst 5, 1) := by decide +kernel
theorem dL_law_590 : decode cL_law 590 = .ok (.iadd, 1) := by decide +kernel
theorem dL_law_591 : decode cL_law 591 = .ok (.iaload, 1) := by decide +kernel
theorem dL_law_592 : decode cL_law 592 = .ok (.invokevirtual 77, 3) := by decide +kernel
theorem dL_law_595 : decode cL_law 595 = .ok (.aload_n 2, 1) := by decide +kernel
theorem dL_law_596 : decode cL_law 596 = .ok (.aload_n 0, 1) := by decide +kernel
theorem dL_law_597 : decode cL_law 597 = .ok (.iload_n 3, 1) := by decide +kernel
theorem dL_law_598 : decode cL_law 598 = .ok (.iconst 1, 1) := by decide +kernel
theorem dL_law_599 : decode cL_law 599 = .ok (.iadd, 1) := by decide +kernel
theorem dL_law_600 : decode cL_law 600 = .ok (.iaload, 1) := by decide +kernel
theorem dL_law_601 : decode cL_law 601 = .ok (.aload_n 0, 1) := by decide +kernel
theorem dL_law_602 : decode cL_law 602 = .ok (.iload_n 3, 1) := by decide +kernel
theorem dL_law_603 : decode cL_law 603 = .ok (.iconst 2, 1) := by decide +kernel
theorem dL_law_604 : decode cL_law 604 = .ok (.iadd, 1) := by decide +kernel
theorem dL_law_605 : decode cL_law 605 = .ok (.iaload, 1) := by decide +kernel
theorem dL_law_606 : decode cL_law 606 = .ok (.aload_n 0, 1) := by decide +kernel
theorem dL_law_607 : decode cL_law 607 = .ok (.iload_n 3, 1) := by decide +kernel
theorem dL_law_608 : decode cL_law 608 = .ok (.iconst 3, 1) := by decide +kernel
theorem dL_law_609 : decode cL_law 609 = .ok (.iadd, 1) := by decide +kernel
theorem dL_law_610 : decode cL_law 610 = .ok (.iaload, 1) := by decide +kernel
theorem dL_law_611 : decode cL_law 611 = .ok (.aload_n 0, 1) := by decide +kernel
theorem dL_law_612 : decode cL_law 612 = .ok (.iload_n 3, 1) := by decide +kernel
theorem dL_law_613 : decode cL_law 613 = .ok (.iconst 4, 1) := by decide +kernel
theorem dL_law_614 : decode cL_law 614 = .ok (.iadd, 1) := by decide +kernel
theorem dL_law_615 : decode cL_law 615 = .ok (.iaload, 1) := by decide +kernel
theorem dL_law_616 : decode cL_law 616 = .ok (.aload_n 0, 1) := by decide +kernel
theorem dL_law_617 : decode cL_law 617 = .ok (.iload_n 3, 1) := by decide +kernel
theorem dL_law_618 : decode cL_law 618 = .ok (.iconst 5, 1) := by decide +kernel
theorem dL_law_619 : decode cL_law 619 = .ok (.iadd, 1) := by decide +kernel
theorem dL_law_620 : decode cL_law 620 = .ok (.iaload, 1) := by decide +kernel
theorem dL_law_621 : decode cL_law 621 = .ok (.invokevirtual 81, 3) := by decide +kernel
theorem dL_law_624 : decode cL_law 624 = .ok (.if_icmp .eq 360, 3) := by decide +kernel
theorem dL_law_627 : decode cL_law 627 = .ok (.iconst 0, 1) := by decide +kernel
theorem dL_law_628 : decode cL_law 628 = .ok (.ireturn, 1) := by decide +kernel
theorem dL_law_629 : decode cL_law 629 = .ok (.aload_n 1, 1) := by decide +kernel
theorem dL_law_630 : decode cL_law 630 = .ok (.aload_n 0, 1) := by decide +kernel
theorem dL_law_631 : decode cL_law 631 = .ok (.iload_n 3, 1) := by decide +kernel
theorem dL_law_632 : decode cL_law 632 = .ok (.iconst 1, 1) := by decide +kernel
theorem dL_law_633 : decode cL_law 633 = .ok (.iadd, 1) := by decide +kernel
theorem dL_law_634 : decode cL_law 634 = .ok (.iaload, 1) := by decide +kernel
theorem dL_law_635 : decode cL_law 635 = .ok (.aload_n 0, 1) := by decide +kernel
theorem dL_law_636 : decode cL_law 636 = .ok (.iload_n 3, 1) := by decide +kernel
theorem dL_law_637 : decode cL_law 637 = .ok (.iconst 2, 1) := by decide +kernel
theorem dL_law_638 : decode cL_law 638 = .ok (.iadd, 1) := by decide +kernel
theorem dL_law_639 : decode cL_law 639 = .ok (.iaload, 1) := by decide +kernel
theorem dL_law_640 : decode cL_law 640 = .ok (.invokevirtual 82, 3) := by decide +kernel
theorem dL_law_643 : decode cL_law 643 = .ok (.aload_n 2, 1) := by decide +kernel
theorem dL_law_644 : decode cL_law 644 = .ok (.aload_n 0, 1) := by decide +kernel
theorem dL_law_645 : decode cL_law 645 = .ok (.iload_n 3, 1) := by decide +kernel
theorem dL_law_646 : decode cL_law 646 = .ok (.iconst 1, 1) := by decide +kernel
theorem dL_law_647 : decode cL_law 647 = .ok (.iadd, 1) := by decide +kernel
theorem dL_law_648 : decode cL_law 648 = .ok (.iaload, 1) := by decide +kernel
theorem dL_law_649 : decode cL_law 649 = .ok (.aload_n 0, 1) := by decide +kernel
theorem dL_law_650 : decode cL_law 650 = .ok (.iload_n 3, 1) := by decide +kernel
theorem dL_law_651 : decode cL_law 651 = .ok (.iconst 2, 1) := by decide +kernel
theorem dL_law_652 : decode cL_law 652 = .ok (.iadd, 1) := by decide +kernel
theorem dL_law_653 : decode cL_law 653 = .ok (.iaload, 1) := by decide +kernel
theorem dL_law_654 : decode cL_law 654 = .ok (.invokevirtual 85, 3) := by decide +kernel
theorem dL_law_657 : decode cL_law 657 = .ok (.if_icmp .eq 327, 3) := by decide +kernel
theorem dL_law_660 : decode cL_law 660 = .ok (.iconst 0, 1) := by decide +kernel
theorem dL_law_661 : decode cL_law 661 = .ok (.ireturn, 1) := by decide +kernel
theorem dL_law_662 : decode cL_law 662 = .ok (.aload_n 1, 1) := by decide +kernel
theorem dL_law_663 : decode cL_law 663 = .ok (.aload_n 0, 1) := by decide +kernel
theorem dL_law_664 : decode cL_law 664 = .ok (.iload_n 3, 1) := by decide +kernel
theorem dL_law_665 : decode cL_law 665 = .ok (.iconst 1, 1) := by decide +kernel
theorem dL_law_666 : decode cL_law 666 = .ok (.iadd, 1) := by decide +kernel
theorem dL_law_667 : decode cL_law 667 = .ok (.iaload, 1) := by decide +kernel
theorem dL_law_668 : decode cL_law 668 = .ok (.aload_n 0, 1) := by decide +kernel
theorem dL_law_669 : decode cL_law 669 = .ok (.iload_n 3, 1) := by decide +kernel
theorem dL_law_670 : decode cL_law 670 = .ok (.iconst 2, 1) := by decide +kernel
theorem dL_law_671 : decode cL_law 671 = .ok (.iadd, 1) := by decide +kernel
theorem dL_law_672 : decode cL_law 672 = .ok (.iaload, 1) := by decide +kernel
theorem dL_law_673 : decode cL_law 673 = .ok (.invokevirtual 86, 3) := by decide +kernel
theorem dL_law_676 : decode cL_law 676 = .ok (.aload_n 2, 1) := by decide +kernel
theorem dL_law_677 : decode cL_law 677 = .ok (.aload_n 0, 1) := by decide +kernel
theorem dL_law_678 : decode cL_law 678 = .ok (.iload_n 3, 1) := by decide +kernel
theorem dL_law_679 : decode cL_law 679 = .ok (.iconst 1, 1) := by decide +kernel
theorem dL_law_680 : decode cL_law 680 = .ok (.iadd, 1) := by decide +kernel
theorem dL_law_681 : decode cL_law 681 = .ok (.iaload, 1) := by decide +kernel
theorem dL_law_682 : decode cL_law 682 = .ok (.aload_n 0, 1) := by decide +kernel
theorem dL_law_683 : decode cL_law 683 = .ok (.iload_n 3, 1) := by decide +kernel
theorem dL_law_684 : decode cL_law 684 = .ok (.iconst 2, 1) := by decide +kernel
theorem dL_law_685 : decode cL_law 685 = .ok (.iadd, 1) := by decide +kernel
theorem dL_law_686 : decode cL_law 686 = .ok (.iaload, 1) := by decide +kernel
theorem dL_law_687 : decode cL_law 687 = .ok (.invokevirtual 90, 3) := by decide +kernel
theorem dL_law_690 : decode cL_law 690 = .ok (.lcmp, 1) := by decide +kernel
theorem dL_law_691 : decode cL_law 691 = .ok (.ifCond .eq 293, 3) := by decide +kernel
theorem dL_law_694 : decode cL_law 694 = .ok (.iconst 0, 1) := by decide +kernel
theorem dL_law_695 : decode cL_law 695 = .ok (.ireturn, 1) := by decide +kernel
theorem dL_law_696 : decode cL_law 696 = .ok (.aload_n 1, 1) := by decide +kernel
theorem dL_law_697 : decode cL_law 697 = .ok (.aload_n 0, 1) := by decide +kernel
theorem dL_law_698 : decode cL_law 698 = .ok (.iload_n 3, 1) := by decide +kernel
theorem dL_law_699 : decode cL_law 699 = .ok (.iconst 1, 1) := by decide +kernel
theorem dL_law_700 : decode cL_law 700 = .ok (.iadd, 1) := by decide +kernel
theorem dL_law_701 : decode cL_law 701 = .ok (.iaload, 1) := by decide +kernel
theorem dL_law_702 : decode cL_law 702 = .ok (.aload_n 0, 1) := by decide +kernel
theorem dL_law_703 : decode cL_law 703 = .ok (.iload_n 3, 1) := by decide +kernel
theorem dL_law_704 : decode cL_law 704 = .ok (.iconst 2, 1) := by decide +kernel
theorem dL_law_705 : decode cL_law 705 = .ok (.iadd, 1) := by decide +kernel
theorem dL_law_706 : decode cL_law 706 = .ok (.iaload, 1) := by decide +kernel
theorem dL_law_707 : decode cL_law 707 = .ok (.aload_n 0, 1) := by decide +kernel
theorem dL_law_708 : decode cL_law 708 = .ok (.iload_n 3, 1) := by decide +kernel
theorem dL_law_709 : decode cL_law 709 = .ok (.iconst 3, 1) := by decide +kernel
theorem dL_law_710 : decode cL_law 710 = .ok (.iadd, 1) := by decide +kernel
theorem dL_law_711 : decode cL_law 711 = .ok (.iaload, 1) := by decide +kernel
theorem dL_law_712 : decode cL_law 712 = .ok (.invokevirtual 91, 3) := by decide +kernel
theorem dL_law_715 : decode cL_law 715 = .ok (.aload_n 2, 1) := by decide +kernel
theorem dL_law_716 : decode cL_law 716 = .ok (.aload_n 0, 1) := by decide +kernel
theorem dL_law_717 : decode cL_law 717 = .ok (.iload_n 3, 1) := by decide +kernel
theorem dL_law_718 : decode cL_law 718 = .ok (.iconst 1, 1) := by decide +kernel
theorem dL_law_719 : decode cL_law 719 = .ok (.iadd, 1) := by decide +kernel
theorem dL_law_720 : decode cL_law 720 = .ok (.iaload, 1) := by decide +kernel
theorem dL_law_721 : decode cL_law 721 = .ok (.aload_n 0, 1) := by decide +kernel
theorem dL_law_722 : decode cL_law 722 = .ok (.iload_n 3, 1) := by decide +kernel
theorem dL_law_723 : decode cL_law 723 = .ok (.iconst 2, 1) := by decide +kernel
theorem dL_law_724 : decode cL_law 724 = .ok (.iadd, 1) := by decide +kernel
theorem dL_law_725 : decode cL_law 725 = .ok (.iaload, 1) := by decide +kernel
theorem dL_law_726 : decode cL_law 726 = .ok (.aload_n 0, 1) := by decide +kernel
theorem dL_law_727 : decode cL_law 727 = .ok (.iload_n 3, 1) := by decide +kernel
theorem dL_law_728 : decode cL_law 728 = .ok (.iconst 3, 1) := by decide +kernel
theorem dL_law_729 : decode cL_law 729 = .ok (.iadd, 1) := by decide +kernel
theorem dL_law_730 : decode cL_law 730 = .ok (.iaload, 1) := by decide +kernel
theorem dL_law_731 : decode cL_law 731 = .ok (.invokevirtual 94, 3) := by decide +kernel
theorem dL_law_734 : decode cL_law 734 = .ok (.if_icmp .eq 250, 3) := by decide +kernel
theorem dL_law_737 : decode cL_law 737 = .ok (.iconst 0, 1) := by decide +kernel
theorem dL_law_738 : decode cL_law 738 = .ok (.ireturn, 1) := by decide +kernel
theorem dL_law_739 : decode cL_law 739 = .ok (.aload_n 1, 1) := by decide +kernel
theorem dL_law_740 : decode cL_law 740 = .ok (.aload_n 0, 1) := by decide +kernel
theorem dL_law_741 : decode cL_law 741 = .ok (.iload_n 3, 1) := by decide +kernel
theorem dL_law_742 : decode cL_law 742 = .ok (.iconst 1, 1) := by decide +kernel
theorem dL_law_743 : decode cL_law 743 = .ok (.iadd, 1) := by decide +kernel
theorem dL_law_744 : decode cL_law 744 = .ok (.iaload, 1) := by decide +kernel
theorem dL_law_745 : decode cL_law 745 = .ok (.invokevirtual 95, 3) := by decide +kernel
theorem dL_law_748 : decode cL_law 748 = .ok (.aload_n 2, 1) := by decide +kernel
theorem dL_law_749 : decode cL_law 749 = .ok (.aload_n 0, 1) := by decide +kernel
theorem dL_law_750 : decode cL_law 750 = .ok (.iload_n 3, 1) := by decide +kernel
theorem dL_law_751 : decode cL_law 751 = .ok (.iconst 1, 1) := by decide +kernel
theorem dL_law_752 : decode cL_law 752 = .ok (.iadd, 1) := by decide +kernel
theorem dL_law_753 : decode cL_law 753 = .ok (.iaload, 1) := by decide +kernel
theorem dL_law_754 : decode cL_law 754 = .ok (.invokevirtual 98, 3) := by decide +kernel
theorem dL_law_757 : decode cL_law 757 = .ok (.lcmp, 1) := by decide +kernel
theorem dL_law_758 : decode cL_law 758 = .ok (.ifCond .eq 226, 3) := by decide +kernel
theorem dL_law_761 : decode cL_law 761 = .ok (.iconst 0, 1) := by decide +kernel
theorem dL_law_762 : decode cL_law 762 = .ok (.ireturn, 1) := by decide +kernel
theorem dL_law_763 : decode cL_law 763 = .ok (.aload_n 1, 1) := by decide +kernel
theorem dL_law_764 : decode cL_law 764 = .ok (.aload_n 0, 1) := by decide +kernel
theorem dL_law_765 : decode cL_law 765 = .ok (.iload_n 3, 1) := by decide +kernel
theorem dL_law_766 : decode cL_law 766 = .ok (.iconst 1, 1) := by decide +kernel
theorem dL_law_767 : decode cL_law 767 = .ok (.iadd, 1) := by decide +kernel
theorem dL_law_768 : decode cL_law 768 = .ok (.iaload, 1) := by decide +kernel
theorem dL_law_769 : decode cL_law 769 = .ok (.invokevirtual 99, 3) := by decide +kernel
theorem dL_law_772 : decode cL_law 772 = .ok (.aload_n 2, 1) := by decide +kernel
theorem dL_law_773 : decode cL_law 773 = .ok (.aload_n 0, 1) := by decide +kernel
theorem dL_law_774 : decode cL_law 774 = .ok (.iload_n 3, 1) := by decide +kernel
theorem dL_law_775 : decode cL_law 775 = .ok (.iconst 1, 1) := by decide +kernel
theorem dL_law_776 : decode cL_law 776 = .ok (.iadd, 1) := by decide +kernel
theorem dL_law_777 : decode cL_law 777 = .ok (.iaload, 1) := by decide +kernel
theorem dL_law_778 : decode cL_law 778 = .ok (.invokevirtual 102, 3) := by decide +kernel
theorem dL_law_781 : decode cL_law 781 = .ok (.if_icmp .eq 203, 3) := by decide +kernel
theorem dL_law_784 : decode cL_law 784 = .ok (.iconst 0, 1) := by decide +kernel
theorem dL_law_785 : decode cL_law 785 = .ok (.ireturn, 1) := by decide +kernel
theorem dL_law_786 : decode cL_law 786 = .ok (.aload_n 1, 1) := by decide +kernel
theorem dL_law_787 : decode cL_law 787 = .ok (.aload_n 0, 1) := by decide +kernel
theorem dL_law_788 : decode cL_law 788 = .ok (.iload_n 3, 1) := by decide +kernel
theorem dL_law_789 : decode cL_law 789 = .ok (.iconst 1, 1) := by decide +kernel
theorem dL_law_790 : decode cL_law 790 = .ok (.iadd, 1) := by decide +kernel
theorem dL_law_791 : decode cL_law 791 = .ok (.iaload, 1) := by decide +kernel
theorem dL_law_792 : decode cL_law 792 = .ok (.aload_n 0, 1) := by decide +kernel
theorem dL_law_793 : decode cL_law 793 = .ok (.iload_n 3, 1) := by decide +kernel
theorem dL_law_794 : decode cL_law 794 = .ok (.iconst 2, 1) := by decide +kernel
theorem dL_law_795 : decode cL_law 795 = .ok (.iadd, 1) := by decide +kernel
theorem dL_law_796 : decode cL_law 796 = .ok (.iaload, 1) := by decide +kernel
theorem dL_law_797 : decode cL_law 797 = .ok (.aload_n 0, 1) := by decide +kernel
theorem dL_law_798 : decode cL_law 798 = .ok (.iload_n 3, 1) := by decide +kernel
theorem dL_law_799 : decode cL_law 799 = .ok (.iconst 3, 1) := by decide +kernel
theorem dL_law_800 : decode cL_law 800 = .ok (.iadd, 1) := by decide +kernel
theorem dL_law_801 : decode cL_law 801 = .ok (.iaload, 1) := by decide +kernel
theorem dL_law_802 : decode cL_law 802 = .ok (.aload_n 0, 1) := by decide +kernel
theorem dL_law_803 : decode cL_law 803 = .ok (.iload_n 3, 1) := by decide +kernel
theorem dL_law_804 : decode cL_law 804 = .ok (.iconst 4, 1) := by decide +kernel
theorem dL_law_805 : decode cL_law 805 = .ok (.iadd, 1) := by decide +kernel
theorem dL_law_806 : decode cL_law 806 = .ok (.iaload, 1) := by decide +kernel
theorem dL_law_807 : decode cL_law 807 = .ok (.aload_n 0, 1) := by decide +kernel
theorem dL_law_808 : decode cL_law 808 = .ok (.iload_n 3, 1) := by decide +kernel
theorem dL_law_809 : decode cL_law 809 = .ok (.iconst 5, 1) := by decide +kernel
theorem dL_law_810 : decode cL_law 810 = .ok (.iadd, 1) := by decide +kernel
theorem dL_law_811 : decode cL_law 811 = .ok (.iaload, 1) := by decide +kernel
theorem dL_law_812 : decode cL_law 812 = .ok (.invokevirtual 103, 3) := by decide +kernel
theorem dL_law_815 : decode cL_law 815 = .ok (.aload_n 2, 1) := by decide +kernel
theorem dL_law_816 : decode cL_law 816 = .ok (.aload_n 0, 1) := by decide +kernel
theorem dL_law_817 : decode cL_law 817 = .ok (.iload_n 3, 1) := by decide +kernel
theorem dL_law_818 : decode cL_law 818 = .ok (.iconst 1, 1) := by decide +kernel
theorem dL_law_819 : decode cL_law 819 = .ok (.iadd, 1) := by decide +kernel
theorem dL_law_820 : decode cL_law 820 = .ok (.iaload, 1) := by decide +kernel
theorem dL_law_821 : decode cL_law 821 = .ok (.aload_n 0, 1) := by decide +kernel
theorem dL_law_822 : decode cL_law 822 = .ok (.iload_n 3, 1) := by decide +kernel
theorem dL_law_823 : decode cL_law 823 = .ok (.iconst 2, 1) := by decide +kernel
theorem dL_law_824 : decode cL_law 824 = .ok (.iadd, 1) := by decide +kernel
theorem dL_law_825 : decode cL_law 825 = .ok (.iaload, 1) := by decide +kernel
theorem dL_law_826 : decode cL_law 826 = .ok (.aload_n 0, 1) := by decide +kernel
theorem dL_law_827 : decode cL_law 827 = .ok (.iload_n 3, 1) := by decide +kernel
theorem dL_law_828 : decode cL_law 828 = .ok (.iconst 3, 1) := by decide +kernel
theorem dL_law_829 : decode cL_law 829 = .ok (.iadd, 1) := by decide +kernel
theorem dL_law_830 : decode cL_law 830 = .ok (.iaload, 1) := by decide +kernel
theorem dL_law_831 : decode cL_law 831 = .ok (.aload_n 0, 1) := by decide +kernel
theorem dL_law_832 : decode cL_law 832 = .ok (.iload_n 3, 1) := by decide +kernel
theorem dL_law_833 : decode cL_law 833 = .ok (.iconst 4, 1) := by decide +kernel
theorem dL_law_834 : decode cL_law 834 = .ok (.iadd, 1) := by decide +kernel
theorem dL_law_835 : decode cL_law 835 = .ok (.iaload, 1) := by decide +kernel
theorem dL_law_836 : decode cL_law 836 = .ok (.aload_n 0, 1) := by decide +kernel
theorem dL_law_837 : decode cL_law 837 = .ok (.iload_n 3, 1) := by decide +kernel
theorem dL_law_838 : decode cL_law 838 = .ok (.iconst 5, 1) := by decide +kernel
theorem dL_law_839 : decode cL_law 839 = .ok (.iadd, 1) := by decide +kernel
theorem dL_law_840 : decode cL_law 840 = .ok (.iaload, 1) := by decide +kernel
theorem dL_law_841 : decode cL_law 841 = .ok (.invokevirtual 106, 3) := by decide +kernel
theorem dL_law_844 : decode cL_law 844 = .ok (.if_icmp .eq 140, 3) := by decide +kernel
theorem dL_law_847 : decode cL_law 847 = .ok (.iconst 0, 1) := by decide +kernel
theorem dL_law_848 : decode cL_law 848 = .ok (.ireturn, 1) := by decide +kernel
theorem dL_law_849 : decode cL_law 849 = .ok (.aload_n 1, 1) := by decide +kernel
theorem dL_law_850 : decode cL_law 850 = .ok (.aload_n 0, 1) := by decide +kernel
theorem dL_law_851 : decode cL_law 851 = .ok (.iload_n 3, 1) := by decide +kernel
theorem dL_law_852 : decode cL_law 852 = .ok (.iconst 1, 1) := by decide +kernel
theorem dL_law_853 : decode cL_law 853 = .ok (.iadd, 1) := by decide +kernel
theorem dL_law_854 : decode cL_law 854 = .ok (.iaload, 1) := by decide +kernel
theorem dL_law_855 : decode cL_law 855 = .ok (.invokevirtual 107, 3) := by decide +kernel
theorem dL_law_858 : decode cL_law 858 = .ok (.aload_n 2, 1) := by decide +kernel
theorem dL_law_859 : decode cL_law 859 = .ok (.aload_n 0, 1) := by decide +kernel
theorem dL_law_860 : decode cL_law 860 = .ok (.iload_n 3, 1) := by decide +kernel
theorem dL_law_861 : decode cL_law 861 = .ok (.iconst 1, 1) := by decide +kernel
theorem dL_law_862 : decode cL_law 862 = .ok (.iadd, 1) := by decide +kernel
theorem dL_law_863 : decode cL_law 863 = .ok (.iaload, 1) := by decide +kernel
theorem dL_law_864 : decode cL_law 864 = .ok (.invokevirtual 110, 3) := by decide +kernel
theorem dL_law_867 : decode cL_law 867 = .ok (.if_icmp .eq 117, 3) := by decide +kernel
theorem dL_law_870 : decode cL_law 870 = .ok (.iconst 0, 1) := by decide +kernel
theorem dL_law_871 : decode cL_law 871 = .ok (.ireturn, 1) := by decide +kernel
theorem dL_law_872 : decode cL_law 872 = .ok (.aload_n 1, 1) := by decide +kernel
theorem dL_law_873 : decode cL_law 873 = .ok (.aload_n 0, 1) := by decide +kernel
theorem dL_law_874 : decode cL_law 874 = .ok (.iload_n 3, 1) := by decide +kernel
theorem dL_law_875 : decode cL_law 875 = .ok (.iconst 1, 1) := by decide +kernel
theorem dL_law_876 : decode cL_law 876 = .ok (.iadd, 1) := by decide +kernel
theorem dL_law_877 : decode cL_law 877 = .ok (.iaload, 1) := by decide +kernel
theorem dL_law_878 : decode cL_law 878 = .ok (.aload_n 0, 1) := by decide +kernel
theorem dL_law_879 : decode cL_law 879 = .ok (.iload_n 3, 1) := by decide +kernel
theorem dL_law_880 : decode cL_law 880 = .ok (.iconst 2, 1) := by decide +kernel
theorem dL_law_881 : decode cL_law 881 = .ok (.iadd, 1) := by decide +kernel
theorem dL_law_882 : decode cL_law 882 = .ok (.iaload, 1) := by decide +kernel
theorem dL_law_883 : decode cL_law 883 = .ok (.invokevirtual 111, 3) := by decide +kernel
theorem dL_law_886 : decode cL_law 886 = .ok (.aload_n 2, 1) := by decide +kernel
theorem dL_law_887 : decode cL_law 887 = .ok (.aload_n 0, 1) := by decide +kernel
theorem dL_law_888 : decode cL_law 888 = .ok (.iload_n 3, 1) := by decide +kernel
theorem dL_law_889 : decode cL_law 889 = .ok (.iconst 1, 1) := by decide +kernel
theorem dL_law_890 : decode cL_law 890 = .ok (.iadd, 1) := by decide +kernel
theorem dL_law_891 : decode cL_law 891 = .ok (.iaload, 1) := by decide +kernel
theorem dL_law_892 : decode cL_law 892 = .ok (.aload_n 0, 1) := by decide +kernel
theorem dL_law_893 : decode cL_law 893 = .ok (.iload_n 3, 1) := by decide +kernel
theorem dL_law_894 : decode cL_law 894 = .ok (.iconst 2, 1) := by decide +kernel
theorem dL_law_895 : decode cL_law 895 = .ok (.iadd, 1) := by decide +kernel
theorem dL_law_896 : decode cL_law 896 = .ok (.iaload, 1) := by decide +kernel
theorem dL_law_897 : decode cL_law 897 = .ok (.invokevirtual 114, 3) := by decide +kernel
theorem dL_law_900 : decode cL_law 900 = .ok (.if_icmp .eq 84, 3) := by decide +kernel
theorem dL_law_903 : decode cL_law 903 = .ok (.iconst 0, 1) := by decide +kernel
theorem dL_law_904 : decode cL_law 904 = .ok (.ireturn, 1) := by decide +kernel
theorem dL_law_905 : decode cL_law 905 = .ok (.aload_n 1, 1) := by decide +kernel
theorem dL_law_906 : decode cL_law 906 = .ok (.aload_n 0, 1) := by decide +kernel
theorem dL_law_907 : decode cL_law 907 = .ok (.iload_n 3, 1) := by decide +kernel
theorem dL_law_908 : decode cL_law 908 = .ok (.iconst 1, 1) := by decide +kernel
theorem dL_law_909 : decode cL_law 909 = .ok (.iadd, 1) := by decide +kernel
theorem dL_law_910 : decode cL_law 910 = .ok (.iaload, 1) := by decide +kernel
theorem dL_law_911 : decode cL_law 911 = .ok (.aload_n 0, 1) := by decide +kernel
theorem dL_law_912 : decode cL_law 912 = .ok (.iload_n 3, 1) := by decide +kernel
theorem dL_law_913 : decode cL_law 913 = .ok (.iconst 2, 1) := by decide +kernel
theorem dL_law_914 : decode cL_law 914 = .ok (.iadd, 1) := by decide +kernel
theorem dL_law_915 : decode cL_law 915 = .ok (.iaload, 1) := by decide +kernel
theorem dL_law_916 : decode cL_law 916 = .ok (.invokevirtual 115, 3) := by decide +kernel
theorem dL_law_919 : decode cL_law 919 = .ok (.aload_n 2, 1) := by decide +kernel
theorem dL_law_920 : decode cL_law 920 = .ok (.aload_n 0, 1) := by decide +kernel
theorem dL_law_921 : decode cL_law 921 = .ok (.iload_n 3, 1) := by decide +kernel
theorem dL_law_922 : decode cL_law 922 = .ok (.iconst 1, 1) := by decide +kernel
theorem dL_law_923 : decode cL_law 923 = .ok (.iadd, 1) := by decide +kernel
theorem dL_law_924 : decode cL_law 924 = .ok (.iaload, 1) := by decide +kernel
theorem dL_law_925 : decode cL_law 925 = .ok (.aload_n 0, 1) := by decide +kernel
theorem dL_law_926 : decode cL_law 926 = .ok (.iload_n 3, 1) := by decide +kernel
theorem dL_law_927 : decode cL_law 927 = .ok (.iconst 2, 1) := by decide +kernel
theorem dL_law_928 : decode cL_law 928 = .ok (.iadd, 1) := by decide +kernel
theorem dL_law_929 : decode cL_law 929 = .ok (.iaload, 1) := by decide +kernel
theorem dL_law_930 : decode cL_law 930 = .ok (.invokevirtual 118, 3) := by decide +kernel
theorem dL_law_933 : decode cL_law 933 = .ok (.if_icmp .eq 51, 3) := by decide +kernel
theorem dL_law_936 : decode cL_law 936 = .ok (.iconst 0, 1) := by decide +kernel
theorem dL_law_937 : decode cL_law 937 = .ok (.ireturn, 1) := by decide +kernel
theorem dL_law_938 : decode cL_law 938 = .ok (.aload_n 1, 1) := by decide +kernel
theorem dL_law_939 : decode cL_law 939 = .ok (.aload_n 0, 1) := by decide +kernel
theorem dL_law_940 : decode cL_law 940 = .ok (.iload_n 3, 1) := by decide +kernel
theorem dL_law_941 : decode cL_law 941 = .ok (.iconst 1, 1) := by decide +kernel
theorem dL_law_942 : decode cL_law 942 = .ok (.iadd, 1) := by decide +kernel
theorem dL_law_943 : decode cL_law 943 = .ok (.iaload, 1) := by decide +kernel
theorem dL_law_944 : decode cL_law 944 = .ok (.invokevirtual 119, 3) := by decide +kernel
theorem dL_law_947 : decode cL_law 947 = .ok (.aload_n 2, 1) := by decide +kernel
theorem dL_law_948 : decode cL_law 948 = .ok (.aload_n 0, 1) := by decide +kernel
theorem dL_law_949 : decode cL_law 949 = .ok (.iload_n 3, 1) := by decide +kernel
theorem dL_law_950 : decode cL_law 950 = .ok (.iconst 1, 1) := by decide +kernel
theorem dL_law_951 : decode cL_law 951 = .ok (.iadd, 1) := by decide +kernel
theorem dL_law_952 : decode cL_law 952 = .ok (.iaload, 1) := by decide +kernel
theorem dL_law_953 : decode cL_law 953 = .ok (.invokevirtual 122, 3) := by decide +kernel
theorem dL_law_956 : decode cL_law 956 = .ok (.if_icmp .eq 28, 3) := by decide +kernel
theorem dL_law_959 : decode cL_law 959 = .ok (.iconst 0, 1) := by decide +kernel
theorem dL_law_960 : decode cL_law 960 = .ok (.ireturn, 1) := by decide +kernel
theorem dL_law_961 : decode cL_law 961 = .ok (.aload_n 1, 1) := by decide +kernel
theorem dL_law_962 : decode cL_law 962 = .ok (.aload_n 0, 1) := by decide +kernel
theorem dL_law_963 : decode cL_law 963 = .ok (.iload_n 3, 1) := by decide +kernel
theorem dL_law_964 : decode cL_law 964 = .ok (.iconst 1, 1) := by decide +kernel
theorem dL_law_965 : decode cL_law 965 = .ok (.iadd, 1) := by decide +kernel
theorem dL_law_966 : decode cL_law 966 = .ok (.iaload, 1) := by decide +kernel
theorem dL_law_967 : decode cL_law 967 = .ok (.invokevirtual 123, 3) := by decide +kernel
theorem dL_law_970 : decode cL_law 970 = .ok (.aload_n 2, 1) := by decide +kernel
theorem dL_law_971 : decode cL_law 971 = .ok (.aload_n 0, 1) := by decide +kernel
theorem dL_law_972 : decode cL_law 972 = .ok (.iload_n 3, 1) := by decide +kernel
theorem dL_law_973 : decode cL_law 973 = .ok (.iconst 1, 1) := by decide +kernel
theorem dL_law_974 : decode cL_law 974 = .ok (.iadd, 1) := by decide +kernel
theorem dL_law_975 : decode cL_law 975 = .ok (.iaload, 1) := by decide +kernel
theorem dL_law_976 : decode cL_law 976 = .ok (.invokevirtual 126, 3) := by decide +kernel
theorem dL_law_979 : decode cL_law 979 = .ok (.if_icmp .eq 5, 3) := by decide +kernel
theorem dL_law_982 : decode cL_law 982 = .ok (.iconst 0, 1) := by decide +kernel
theorem dL_law_983 : decode cL_law 983 = .ok (.ireturn, 1) := by decide +kernel
theorem dL_law_984 : decode cL_law 984 = .ok (.iinc 3 6, 3) := by decide +kernel
theorem dL_law_987 : decode cL_law 987 = .ok (.goto (-969), 3) := by decide +kernel
theorem dL_law_990 : decode cL_law 990 = .ok (.iconst 1, 1) := by decide +kernel
theorem dL_law_991 : decode cL_law 991 = .ok (.ireturn, 1) := by decide +kernel
end
section
/-! ===== numbers: ints as iI z, longs as jI z, z an Int ===== -/
def iI (z : Int) : Int32 := Int32.ofInt z
def jI (z : Int) : Int64 := Int64.ofInt z
theorem iI_add (a b : Int) : iI a + iI b = iI (a + b) := (Int32.ofInt_add a b).symm
theorem iI_sub (a b : Int) : iI a - iI b = iI (a - b) := (Int32.ofInt_sub a b).symm
theorem iI_mul (a b : Int) : iI a * iI b = iI (a * b) := (Int32.ofInt_mul a b).symm
theorem iI_neg (a : Int) : - iI a = iI (-a) := (Int32.ofInt_neg a).symm
theorem jI_add (a b : Int) : jI a + jI b = jI (a + b) := (Int64.ofInt_add a b).symm
theorem jI_sub (a b : Int) : jI a - jI b = jI (a - b) := (Int64.ofInt_sub a b).symm
theorem jI_mul (a b : Int) : jI a * jI b = jI (a * b) := (Int64.ofInt_mul a b).symm
theorem jI_neg (a : Int) : - jI a = jI (-a) := (Int64.ofInt_neg a).symm
theorem iI_T {z : Int} (h : -2147483648 ≤ z ∧ z < 2147483648) : (iI z).toInt = z := Int32.toInt_ofInt_of_le (by omega) (by omega)
theorem jI_T {z : Int} (h : -9223372036854775808 ≤ z ∧ z < 9223372036854775808) : (jI z).toInt = z := Int64.toInt_ofInt_of_le (by omega) (by omega)
theorem iI_of (x : Int32) : iI x.toInt = x := Int32.ofInt_toInt x
theorem iI_rng (x : Int32) : -2147483648 ≤ x.toInt ∧ x.toInt < 2147483648 := ⟨x.le_toInt, x.toInt_lt⟩
theorem iI_le {a b : Int} (ha : -2147483648 ≤ a ∧ a < 2147483648) (hb : -2147483648 ≤ b ∧ b < 2147483648) : iI a ≤ iI b ↔ a ≤ b := by rw [Int32.le_iff_toInt_le, iI_T ha, iI_T hb]
theorem iI_lt {a b : Int} (ha : -2147483648 ≤ a ∧ a < 2147483648) (hb : -2147483648 ≤ b ∧ b < 2147483648) : iI a < iI b ↔ a < b := by rw [Int32.lt_iff_toInt_lt, iI_T ha, iI_T hb]
theorem iI_eq {a b : Int} (ha : -2147483648 ≤ a ∧ a < 2147483648) (hb : -2147483648 ≤ b ∧ b < 2147483648) : iI a = iI b ↔ a = b := by rw [← Int32.toInt_inj, iI_T ha, iI_T hb]
theorem jI_lt {a b : Int} (ha : -9223372036854775808 ≤ a ∧ a < 9223372036854775808) (hb : -9223372036854775808 ≤ b ∧ b < 9223372036854775808) : jI a < jI b ↔ a < b := by rw [Int64.lt_iff_toInt_lt, jI_T ha, jI_T hb]
theorem jI_eq {a b : Int} (ha : -9223372036854775808 ≤ a ∧ a < 9223372036854775808) (hb : -9223372036854775808 ≤ b ∧ b < 9223372036854775808) : jI a = jI b ↔ a = b := by rw [← Int64.toInt_inj, jI_T ha, jI_T hb]
theorem iI_cl {k : Nat} (h : k < 2147483648) : (iI (k : Int)).toNatClampNeg = k := by
  unfold iI
  rw [Int32.toNatClampNeg_ofInt_of_le (by omega) (by omega)]
  exact Int.toNat_natCast k
theorem iI_in {z : Int} {k n : Nat} (hz : z = (k : Int)) (hk : k < n) (hn : n < 2147483648) : vp_in (iI z) n := by
  rw [vp_in_iff, iI_T (by omega)]
  omega
theorem iI_j {z : Int} (h : -2147483648 ≤ z ∧ z < 2147483648) : (iI z).toInt64 = jI z := by
  rw [← Int64.toInt_inj, Int32.toInt_toInt64, iI_T h, jI_T (by omega)]
theorem jI_i (z : Int) : (jI z).toInt32 = iI z := Int64.toInt32_ofInt
theorem iI_ne0 {b : Int} (h : 0 < b ∧ b < 2147483648) : ¬ iI b = 0 := fun q => by
  have := congrArg Int32.toInt q
  rw [iI_T (by omega)] at this
  have h0 : (0 : Int32).toInt = 0 := rfl
  omega
theorem iI_div {a b : Int} (ha : -2147483648 ≤ a ∧ a < 2147483648) (hb : 0 < b ∧ b < 2147483648) : iI a / iI b = iI (a.tdiv b) := by
  have hq : -2147483648 ≤ a.tdiv b ∧ a.tdiv b < 2147483648 := by
    rcases Int.le_total 0 a with h | h
    · rw [Int.tdiv_eq_ediv_of_nonneg h]
      have h1 : 0 ≤ a / b := Int.ediv_nonneg h (by omega)
      have h2 : a / b ≤ a := Int.ediv_le_self b h
      omega
    · have e : a.tdiv b = -((-a) / b) := by
        rw [← Int.neg_neg a, Int.neg_tdiv, Int.tdiv_eq_ediv_of_nonneg (by omega), Int.neg_neg]
      have h1 : 0 ≤ (-a) / b := Int.ediv_nonneg (by omega) (by omega)
      have h2 : (-a) / b ≤ -a := Int.ediv_le_self b (by omega)
      omega
  rw [← Int32.toInt_inj, Int32.toInt_div_of_ne_right _ _ (fun q => by
    have := congrArg Int32.toInt q
    rw [iI_T (by omega)] at this
    have h0 : (-1 : Int32).toInt = -1 := rfl
    omega), iI_T ha, iI_T (by omega), iI_T hq]
theorem iI_divN {a b : Int} (ha : 0 ≤ a ∧ a < 2147483648) (hb : 0 < b ∧ b < 2147483648) : iI a / iI b = iI (a / b) := by
  rw [iI_div (by omega) hb, Int.tdiv_eq_ediv_of_nonneg ha.1]
theorem iI_remN {a b : Int} (ha : 0 ≤ a ∧ a < 2147483648) (hb : 0 < b ∧ b < 2147483648) : iI a - iI a / iI b * iI b = iI (a % b) := by
  rw [iI_divN ha hb, iI_mul, iI_sub, Int.emod_def, Int.mul_comm]
def bI (c : Prop) [Decidable c] : Int := if c then 1 else 0
theorem bI_t {c : Prop} [Decidable c] (h : c) : bI c = 1 := if_pos h
theorem bI_f {c : Prop} [Decidable c] (h : ¬ c) : bI c = 0 := if_neg h
theorem bI_rng (c : Prop) [Decidable c] : 0 ≤ bI c ∧ bI c ≤ 1 := by
  unfold bI
  split <;> decide
theorem bI_nar (c : Prop) [Decidable c] : narrow .boolean (.int (iI (bI c))) = .int (iI (bI c)) := by
  unfold bI
  split <;> rfl
theorem bI_c {c d : Prop} [Decidable c] [Decidable d] (h : c ↔ d) : bI c = bI d := by
  unfold bI
  by_cases hc : c
  · rw [if_pos hc, if_pos (h.mp hc)]
  · rw [if_neg hc, if_neg (fun q => hc (h.mpr q))]

/-! ===== the world: cells 0 .. N - 1, at the addresses ad, holding w ===== -/
abbrev nG : Type := va_G × (Nat → ClassId)
def nL (N : Nat) (ad : Nat → Nat) (w : Nat → va_E) : va_W := (List.range N).map (fun i => (ad i, w i))
theorem nL_at (N : Nat) (ad : Nat → Nat) (w : Nat → va_E) (k : Nat) : (nL N ad w)[k]? = if k < N then some (ad k, w k) else none := by
  unfold nL
  rw [List.getElem?_map]
  split
  · rename_i h
    rw [List.getElem?_range h]
    rfl
  · rename_i h
    rw [List.getElem?_eq_none (by rw [List.length_range]; omega)]
    rfl
theorem nL_len (N : Nat) (ad : Nat → Nat) (w : Nat → va_E) : (nL N ad w).length = N := by simp [nL]
theorem nL_get {N : Nat} {ad : Nat → Nat} {w : Nat → va_E} {i : Nat} {e : va_E} (hi : i < N) (he : w i = e) : (nL N ad w)[i]? = some (ad i, e) := by
  rw [nL_at, if_pos hi, he]
theorem nL_set (N : Nat) (ad : Nat → Nat) (w : Nat → va_E) (i : Nat) (e : va_E) : (nL N ad w).set i (ad i, e) = nL N ad (va_up w i e) := by
  apply List.ext_getElem?
  intro k
  rw [List.getElem?_set, nL_len, nL_at, nL_at]
  by_cases h : i = k
  · subst h
    rw [if_pos rfl, va_up_self]
  · rw [if_neg h, va_up_ne _ _ (fun q => h q.symm)]
def nJ (A : Nat → Prop) (N : Nat) (ad : Nat → Nat) : Prop := (∀ i j, i < N → j < N → ad i = ad j → i = j) ∧ ∀ i, i < N → A (ad i)
theorem nJ.D {A : Nat → Prop} {N : Nat} {ad : Nat → Nat} (h : nJ A N ad) (w : Nat → va_E) : va_D A (nL N ad w) := by
  refine ⟨fun i j p q hi hj e => ?_, fun k q hk => ?_⟩
  · rw [nL_at] at hi hj
    by_cases h1 : i < N
    · by_cases h2 : j < N
      · rw [if_pos h1] at hi
        rw [if_pos h2] at hj
        cases hi
        cases hj
        exact h.1 i j h1 h2 e
      · rw [if_neg h2] at hj
        cases hj
    · rw [if_neg h1] at hi
      cases hi
  · rw [nL_at] at hk
    by_cases h1 : k < N
    · rw [if_pos h1] at hk
      cases hk
      exact h.2 k h1
    · rw [if_neg h1] at hk
      cases hk
def nA (N : Nat) (ad : Nat → Nat) (sz : Nat) : Nat → Prop := fun q => (∃ i, i < N ∧ ad i = q) ∨ sz ≤ q
def nInj (N : Nat) (ad : Nat → Nat) : Prop := ∀ i j, i < N → j < N → ad i = ad j → i = j
theorem nInj.J {N : Nat} {ad : Nat → Nat} (h : nInj N ad) (sz : Nat) : nJ (nA N ad sz) N ad := ⟨h, fun i hi => Or.inl ⟨i, hi, rfl⟩⟩
theorem nA.up {N sz sz' : Nat} {ad : Nat → Nat} (h : sz ≤ sz') : ∀ q, nA N ad sz' q → nA N ad sz q := fun q hq => hq.elim Or.inl (fun z => Or.inr (Nat.le_trans h z))
/-- the arrays' classes: int, long, boolean, of Tills, of Lands, of int arrays -/
def nTy (cs : Nat → ClassId) : List (ClassId × FieldType) := [(cs 0, .int), (cs 1, .long), (cs 2, .boolean), (cs 3, .object "NewCoins$Till"), (cs 4, .object "NewCoins$Land"), (cs 5, .array .int)]
def nNs : List Cond := [.methodLinkNest RX4 23 yX3_init RX6, .methodLinkNest RX4 51 yX5_init RX6, .methodLinkNest RX5 23 yX2_init RX6, .methodLinkNest RX6 26 yX0_init RX6, .methodLinkNest RX1 37 yX6_within RX6, .methodLinkNest RX3 28 yX6_within RX6, .methodLinkNest RX4 99 yX6_wholeTimes RX6, .methodLinkNest RX1 52 yX6_isSum RX6, .methodLinkNest RX1 55 yX6_wholeTimes RX6, .methodLinkNest RX4 68 yX6_within RX6, .methodLinkNest RX0 26 yX6_isSum RX6, .methodLinkNest RX0 60 yX6_wholeTimes RX6]
theorem nNs_is : ∀ w ∈ nNs, ∃ (a : String) (i : Nat) (x : MethodName) (h : String), w = .methodLinkNest a i x h := by
  intro w hw
  simp only [nNs, List.mem_cons, List.not_mem_nil, or_false] at hw
  rcases hw with rfl | rfl | rfl | rfl | rfl | rfl | rfl | rfl | rfl | rfl | rfl | rfl <;> exact ⟨_, _, _, _, rfl⟩
def nK (G : nG) (U : State) : Prop := va_K G.1 vwCl (nTy G.2) U ∧ ∀ w ∈ nNs, va_Nw w U
theorem nK.warm {G : nG} {s U : State} (hW : s.WarmedH U.vm) (h : nK G s) : nK G U := ⟨va_K.moved hW.alike h.1, fun w hw => by
  obtain ⟨a, i, x, q, rfl⟩ := nNs_is w hw
  exact va_Nw.warmM hW (h.2 _ hw)⟩
theorem nK.call {G : nG} {U : State} {g : JFrame} {mk : MethodId} {a : Array Value} (h : nK G U) : nK G (U.calling g mk a) := ⟨va_K.moved (u := U) (U := U.calling g mk a) (Vm.Alike.refl U.vm) h.1, fun w hw => by
  obtain ⟨a', i, x, q, rfl⟩ := nNs_is w hw
  exact va_Nw.same rfl rfl (h.2 _ hw)⟩
def nB (G : nG) (N : Nat) (ad : Nat → Nat) (w : Nat → va_E) (sz : Nat) (U : State) : Prop := U.heap.size = sz ∧ va_P G.1 vwCl (nL N ad w) U.heap ∧ nK G U ∧ nInj N ad
theorem nB.blind {G : nG} {N : Nat} {ad : Nat → Nat} {w : Nat → va_E} {sz : Nat} {av : List Value} : FrameBlind (va_Pc av (nB G N ad w sz)) := fun _ _ _ _ q => ⟨q.1, q.2.1, q.2.2.1, q.2.2.2.1.call, q.2.2.2.2⟩
theorem nB.pre {G : nG} {N : Nat} {ad : Nat → Nat} {w : Nat → va_E} {s : State} {H : Heap} {As : List Value} (hK : nK G s) (hI : nInj N ad) (hP : va_P G.1 vwCl (nL N ad w) H) : PreS s H (va_Pc As (nB G N ad w H.size)) As := ⟨nB.blind, fun U hU hW => ⟨rfl, by rw [hU], by rw [hU]; exact hP, hK.warm hW, hI⟩⟩
theorem nB.preV {G : nG} {N : Nat} {ad : Nat → Nat} {w : Nat → va_E} {s : State} {H : Heap} {As : List Value} {i ci : Nat} {fs : List Value} {q : vw_C} {C : String} (hK : nK G s) (hI : nInj N ad) (hP : va_P G.1 vwCl (nL N ad w) H) (hi : i < N) (he : w i = .inr (ci, fs)) (hc : vwCl[ci]? = some q) (hC : q.1 = C) : PreV s H C (ad i) (va_Pc (.ref (ad i) :: As) (nB G N ad w H.size)) As := by
  subst hC
  exact ⟨nB.blind, va_recv hK.1 hP hc (nL_get hi he), fun U hU hW => ⟨rfl, by rw [hU], by rw [hU]; exact hP, hK.warm hW, hI⟩⟩
/-! contents -/
abbrev aI (G : nG) (n : Nat) (F : Nat → Int) : va_E := .inl (G.2 0, n, .inl (fun j => iI (F j)))
abbrev aJ (G : nG) (n : Nat) (F : Nat → Int) : va_E := .inl (G.2 1, n, .inr (.inl (fun j => jI (F j))))
abbrev aZ (G : nG) (n : Nat) (F : Nat → Int) : va_E := .inl (G.2 2, n, .inl (fun j => iI (F j)))
abbrev aR (G : nG) (q n : Nat) (f : Nat → Option Nat) : va_E := .inl (G.2 q, n, .inr (.inr (.inr (.inr f))))
/-! ends of contracts: a reader; a writer whose answer is an int, a long, nothing -/
def nRd (v : Value) : Array Value → State → Outcome → State → Prop := fun _ st o t => o = .returned (some v) ∧ t.heap = st.heap
def nPi (G : nG) (N : Nat) (ad : Nat → Nat) (sz : Nat) (post : Int → (Nat → va_E) → Prop) : Array Value → State → Outcome → State → Prop := fun _ st oc t => (∃ (r : Int) (u : Nat → va_E), oc = .returned (some (.int (iI r))) ∧ post r u ∧ va_P G.1 vwCl (nL N ad u) t.heap) ∧ va_F (nA N ad sz) st t
def nPl (G : nG) (N : Nat) (ad : Nat → Nat) (sz : Nat) (post : Int → (Nat → va_E) → Prop) : Array Value → State → Outcome → State → Prop := fun _ st oc t => (∃ (r : Int) (u : Nat → va_E), oc = .returned (some (.long (jI r))) ∧ post r u ∧ va_P G.1 vwCl (nL N ad u) t.heap) ∧ va_F (nA N ad sz) st t
def nPv (G : nG) (N : Nat) (ad : Nat → Nat) (sz : Nat) (post : (Nat → va_E) → Prop) : Array Value → State → Outcome → State → Prop := fun _ st oc t => (∃ (u : Nat → va_E), oc = .returned none ∧ post u ∧ va_P G.1 vwCl (nL N ad u) t.heap) ∧ va_F (nA N ad sz) st t
end
section
section NR
variable {p : Program} {l : Launch} {e : Env} {R : Room} {s : State} {m : MethodId} {args : Array Value} {below : List Frame} {meth : Method} {c : Code} {H : Heap} {locs : List Loc} {cells slots : Nat} {Q : State → Prop}
variable {cc : ByteArray} {pc : Nat} {ls : Array Slot} {rest : List Value}
theorem n_iconst (hx : p.tables.exec = Jvm.exec) (hb : c.code = cc) {n : Int} (hdg : decode cc pc = .ok (.iconst n, 1)) (k : W p l e R s m args below meth c H locs cells slots Q (F0 m (pc + 1) ls (.int (iI n) :: rest))) : W p l e R s m args below meth c H locs cells slots Q (F0 m pc ls rest) := lv_iconst hx hb hdg rfl k
theorem n_bipush (hx : p.tables.exec = Jvm.exec) (hb : c.code = cc) {n : Int} (hdg : decode cc pc = .ok (.bipush n, 2)) (hn : (Int8.ofInt n).toInt32 = iI n) (k : W p l e R s m args below meth c H locs cells slots Q (F0 m (pc + 2) ls (.int (iI n) :: rest))) : W p l e R s m args below meth c H locs cells slots Q (F0 m pc ls rest) := lv_bipush hx hb hdg hn k
theorem n_sipush (hx : p.tables.exec = Jvm.exec) (hb : c.code = cc) {n : Int} (hdg : decode cc pc = .ok (.sipush n, 3)) (hn : (Int16.ofInt n).toInt32 = iI n) (k : W p l e R s m args below meth c H locs cells slots Q (F0 m (pc + 3) ls (.int (iI n) :: rest))) : W p l e R s m args below meth c H locs cells slots Q (F0 m pc ls rest) := lv_sipush hx hb hdg hn k
theorem n_iadd (hx : p.tables.exec = Jvm.exec) (hb : c.code = cc) {a b : Int} (hdg : decode cc pc = .ok (.iadd, 1)) (k : W p l e R s m args below meth c H locs cells slots Q (F0 m (pc + 1) ls (.int (iI (a + b)) :: rest))) : W p l e R s m args below meth c H locs cells slots Q (F0 m pc ls (.int (iI b) :: .int (iI a) :: rest)) := lv_iadd hx hb hdg (by rw [iI_add]; exact k)
theorem n_isub (hx : p.tables.exec = Jvm.exec) (hb : c.code = cc) {a b : Int} (hdg : decode cc pc = .ok (.isub, 1)) (k : W p l e R s m args below meth c H locs cells slots Q (F0 m (pc + 1) ls (.int (iI (a - b)) :: rest))) : W p l e R s m args below meth c H locs cells slots Q (F0 m pc ls (.int (iI b) :: .int (iI a) :: rest)) := lv_isub hx hb hdg (by rw [iI_sub]; exact k)
theorem n_imul (hx : p.tables.exec = Jvm.exec) (hb : c.code = cc) {a b : Int} (hdg : decode cc pc = .ok (.imul, 1)) (k : W p l e R s m args below meth c H locs cells slots Q (F0 m (pc + 1) ls (.int (iI (a * b)) :: rest))) : W p l e R s m args below meth c H locs cells slots Q (F0 m pc ls (.int (iI b) :: .int (iI a) :: rest)) := lv_imul hx hb hdg (by rw [iI_mul]; exact k)
theorem n_ineg (hx : p.tables.exec = Jvm.exec) (hb : c.code = cc) {a : Int} (hdg : decode cc pc = .ok (.ineg, 1)) (k : W p l e R s m args below meth c H locs cells slots Q (F0 m (pc + 1) ls (.int (iI (-a)) :: rest))) : W p l e R s m args below meth c H locs cells slots Q (F0 m pc ls (.int (iI a) :: rest)) := lv_ineg hx hb hdg (by rw [iI_neg]; exact k)
theorem n_idiv (hx : p.tables.exec = Jvm.exec) (hb : c.code = cc) {a b : Int} (hdg : decode cc pc = .ok (.idiv, 1)) (ha : -2147483648 ≤ a ∧ a < 2147483648) (hb' : 0 < b ∧ b < 2147483648) (k : W p l e R s m args below meth c H locs cells slots Q (F0 m (pc + 1) ls (.int (iI (a.tdiv b)) :: rest))) : W p l e R s m args below meth c H locs cells slots Q (F0 m pc ls (.int (iI b) :: .int (iI a) :: rest)) := lv_idiv hx hb hdg (iI_ne0 hb') (by rw [iI_div ha hb']; exact k)
theorem n_idivN (hx : p.tables.exec = Jvm.exec) (hb : c.code = cc) {a b : Int} (hdg : decode cc pc = .ok (.idiv, 1)) (ha : 0 ≤ a ∧ a < 2147483648) (hb' : 0 < b ∧ b < 2147483648) (k : W p l e R s m args below meth c H locs cells slots Q (F0 m (pc + 1) ls (.int (iI (a / b)) :: rest))) : W p l e R s m args below meth c H locs cells slots Q (F0 m pc ls (.int (iI b) :: .int (iI a) :: rest)) := lv_idiv hx hb hdg (iI_ne0 hb') (by rw [iI_divN ha hb']; exact k)
theorem n_iremN (hx : p.tables.exec = Jvm.exec) (hb : c.code = cc) {a b : Int} (hdg : decode cc pc = .ok (.irem, 1)) (ha : 0 ≤ a ∧ a < 2147483648) (hb' : 0 < b ∧ b < 2147483648) (k : W p l e R s m args below meth c H locs cells slots Q (F0 m (pc + 1) ls (.int (iI (a % b)) :: rest))) : W p l e R s m args below meth c H locs cells slots Q (F0 m pc ls (.int (iI b) :: .int (iI a) :: rest)) := lv_irem hx hb hdg (iI_ne0 hb') (by rw [iI_remN ha hb']; exact k)
theorem n_lconst (hx : p.tables.exec = Jvm.exec) (hb : c.code = cc) {n : Fin 2} {z : Int} (hdg : decode cc pc = .ok (.lconst n, 1)) (hz : Int64.ofNat (n : Nat) = jI z) (k : W p l e R s m args below meth c H locs cells slots Q (F0 m (pc + 1) ls (.long (jI z) :: rest))) : W p l e R s m args below meth c H locs cells slots Q (F0 m pc ls rest) := lv_lconst hx hb hdg hz k
theorem n_ladd (hx : p.tables.exec = Jvm.exec) (hb : c.code = cc) {a b : Int} (hdg : decode cc pc = .ok (.ladd, 1)) (k : W p l e R s m args below meth c H locs cells slots Q (F0 m (pc + 1) ls (.long (jI (a + b)) :: rest))) : W p l e R s m args below meth c H locs cells slots Q (F0 m pc ls (.long (jI b) :: .long (jI a) :: rest)) := lv_ladd hx hb hdg (by rw [jI_add]; exact k)
theorem n_lsub (hx : p.tables.exec = Jvm.exec) (hb : c.code = cc) {a b : Int} (hdg : decode cc pc = .ok (.lsub, 1)) (k : W p l e R s m args below meth c H locs cells slots Q (F0 m (pc + 1) ls (.long (jI (a - b)) :: rest))) : W p l e R s m args below meth c H locs cells slots Q (F0 m pc ls (.long (jI b) :: .long (jI a) :: rest)) := lv_lsub hx hb hdg (by rw [jI_sub]; exact k)
theorem n_lmul (hx : p.tables.exec = Jvm.exec) (hb : c.code = cc) {a b : Int} (hdg : decode cc pc = .ok (.lmul, 1)) (k : W p l e R s m args below meth c H locs cells slots Q (F0 m (pc + 1) ls (.long (jI (a * b)) :: rest))) : W p l e R s m args below meth c H locs cells slots Q (F0 m pc ls (.long (jI b) :: .long (jI a) :: rest)) := lv_lmul hx hb hdg (by rw [jI_mul]; exact k)
theorem n_lneg (hx : p.tables.exec = Jvm.exec) (hb : c.code = cc) {a : Int} (hdg : decode cc pc = .ok (.lneg, 1)) (k : W p l e R s m args below meth c H locs cells slots Q (F0 m (pc + 1) ls (.long (jI (-a)) :: rest))) : W p l e R s m args below meth c H locs cells slots Q (F0 m pc ls (.long (jI a) :: rest)) := lv_lneg hx hb hdg (by rw [jI_neg]; exact k)
theorem n_i2l (hx : p.tables.exec = Jvm.exec) (hb : c.code = cc) {a : Int} (hdg : decode cc pc = .ok (.i2l, 1)) (ha : -2147483648 ≤ a ∧ a < 2147483648) (k : W p l e R s m args below meth c H locs cells slots Q (F0 m (pc + 1) ls (.long (jI a) :: rest))) : W p l e R s m args below meth c H locs cells slots Q (F0 m pc ls (.int (iI a) :: rest)) := lv_i2l hx hb hdg (iI_j ha) k
theorem n_l2i (hx : p.tables.exec = Jvm.exec) (hb : c.code = cc) {a : Int} (hdg : decode cc pc = .ok (.l2i, 1)) (k : W p l e R s m args below meth c H locs cells slots Q (F0 m (pc + 1) ls (.int (iI a) :: rest))) : W p l e R s m args below meth c H locs cells slots Q (F0 m pc ls (.long (jI a) :: rest)) := lv_l2i hx hb hdg (jI_i a) k
/-! comparisons -/
theorem n_icmp_lt (hx : p.tables.exec = Jvm.exec) (hb : c.code = cc) {a b : Int} {off : Int} {tgt : Nat} (hdg : decode cc pc = .ok (.if_icmp .lt off, 3)) (ht : (pc : Int) + off = (tgt : Int)) (ha : -2147483648 ≤ a ∧ a < 2147483648) (hb' : -2147483648 ≤ b ∧ b < 2147483648) (kt : a < b → W p l e R s m args below meth c H locs cells slots Q (F0 m tgt ls rest)) (kf : b ≤ a → W p l e R s m args below meth c H locs cells slots Q (F0 m (pc + 3) ls rest)) : W p l e R s m args below meth c H locs cells slots Q (F0 m pc ls (.int (iI b) :: .int (iI a) :: rest)) := lv_icmp_lt hx hb hdg ht (fun q => kt ((iI_lt ha hb').mp q)) (fun q => kf (Int.not_lt.mp (fun z => q ((iI_lt ha hb').mpr z))))
theorem n_icmp_ge (hx : p.tables.exec = Jvm.exec) (hb : c.code = cc) {a b : Int} {off : Int} {tgt : Nat} (hdg : decode cc pc = .ok (.if_icmp .ge off, 3)) (ht : (pc : Int) + off = (tgt : Int)) (ha : -2147483648 ≤ a ∧ a < 2147483648) (hb' : -2147483648 ≤ b ∧ b < 2147483648) (kt : b ≤ a → W p l e R s m args below meth c H locs cells slots Q (F0 m tgt ls rest)) (kf : a < b → W p l e R s m args below meth c H locs cells slots Q (F0 m (pc + 3) ls rest)) : W p l e R s m args below meth c H locs cells slots Q (F0 m pc ls (.int (iI b) :: .int (iI a) :: rest)) := lv_icmp_ge hx hb hdg ht (fun q => kt ((iI_le hb' ha).mp q)) (fun q => kf (Int.not_le.mp (fun z => q ((iI_le hb' ha).mpr z))))
theorem n_icmp_gt (hx : p.tables.exec = Jvm.exec) (hb : c.code = cc) {a b : Int} {off : Int} {tgt : Nat} (hdg : decode cc pc = .ok (.if_icmp .gt off, 3)) (ht : (pc : Int) + off = (tgt : Int)) (ha : -2147483648 ≤ a ∧ a < 2147483648) (hb' : -2147483648 ≤ b ∧ b < 2147483648) (kt : b < a → W p l e R s m args below meth c H locs cells slots Q (F0 m tgt ls rest)) (kf : a ≤ b → W p l e R s m args below meth c H locs cells slots Q (F0 m (pc + 3) ls rest)) : W p l e R s m args below meth c H locs cells slots Q (F0 m pc ls (.int (iI b) :: .int (iI a) :: rest)) := lv_icmp_gt hx hb hdg ht (fun q => kt ((iI_lt hb' ha).mp q)) (fun q => kf (Int.not_lt.mp (fun z => q ((iI_lt hb' ha).mpr z))))
theorem n_icmp_le (hx : p.tables.exec = Jvm.exec) (hb : c.code = cc) {a b : Int} {off : Int} {tgt : Nat} (hdg : decode cc pc = .ok (.if_icmp .le off, 3)) (ht : (pc : Int) + off = (tgt : Int)) (ha : -2147483648 ≤ a ∧ a < 2147483648) (hb' : -2147483648 ≤ b ∧ b < 2147483648) (kt : a ≤ b → W p l e R s m args below meth c H locs cells slots Q (F0 m tgt ls rest)) (kf : b < a → W p l e R s m args below meth c H locs cells slots Q (F0 m (pc + 3) ls rest)) : W p l e R s m args below meth c H locs cells slots Q (F0 m pc ls (.int (iI b) :: .int (iI a) :: rest)) := lv_icmp_le hx hb hdg ht (fun q => kt ((iI_le ha hb').mp q)) (fun q => kf (Int.not_le.mp (fun z => q ((iI_le ha hb').mpr z))))
theorem n_icmp_eq (hx : p.tables.exec = Jvm.exec) (hb : c.code = cc) {a b : Int} {off : Int} {tgt : Nat} (hdg : decode cc pc = .ok (.if_icmp .eq off, 3)) (ht : (pc : Int) + off = (tgt : Int)) (ha : -2147483648 ≤ a ∧ a < 2147483648) (hb' : -2147483648 ≤ b ∧ b < 2147483648) (kt : a = b → W p l e R s m args below meth c H locs cells slots Q (F0 m tgt ls rest)) (kf : ¬ a = b → W p l e R s m args below meth c H locs cells slots Q (F0 m (pc + 3) ls rest)) : W p l e R s m args below meth c H locs cells slots Q (F0 m pc ls (.int (iI b) :: .int (iI a) :: rest)) := lv_icmp_eq hx hb hdg ht (fun q => kt ((iI_eq ha hb').mp q)) (fun q => kf (fun z => q ((iI_eq ha hb').mpr z)))
theorem n_icmp_ne (hx : p.tables.exec = Jvm.exec) (hb : c.code = cc) {a b : Int} {off : Int} {tgt : Nat} (hdg : decode cc pc = .ok (.if_icmp .ne off, 3)) (ht : (pc : Int) + off = (tgt : Int)) (ha : -2147483648 ≤ a ∧ a < 2147483648) (hb' : -2147483648 ≤ b ∧ b < 2147483648) (kt : ¬ a = b → W p l e R s m args below meth c H locs cells slots Q (F0 m tgt ls rest)) (kf : a = b → W p l e R s m args below meth c H locs cells slots Q (F0 m (pc + 3) ls rest)) : W p l e R s m args below meth c H locs cells slots Q (F0 m pc ls (.int (iI b) :: .int (iI a) :: rest)) := lv_icmp_ne hx hb hdg ht (fun q => kt (fun z => q ((iI_eq ha hb').mpr z))) (fun q => kf ((iI_eq ha hb').mp q))
theorem iI_0 : iI 0 = 0 := rfl
theorem n_if_eq (hx : p.tables.exec = Jvm.exec) (hb : c.code = cc) {a : Int} {off : Int} {tgt : Nat} (hdg : decode cc pc = .ok (.ifCond .eq off, 3)) (ht : (pc : Int) + off = (tgt : Int)) (ha : -2147483648 ≤ a ∧ a < 2147483648) (kt : a = 0 → W p l e R s m args below meth c H locs cells slots Q (F0 m tgt ls rest)) (kf : ¬ a = 0 → W p l e R s m args below meth c H locs cells slots Q (F0 m (pc + 3) ls rest)) : W p l e R s m args below meth c H locs cells slots Q (F0 m pc ls (.int (iI a) :: rest)) := lv_if_eq hx hb hdg ht (fun q => kt ((iI_eq ha (by decide)).mp q)) (fun q => kf (fun z => q ((iI_eq ha (b := 0) (by decide)).mpr z)))
theorem n_if_ne (hx : p.tables.exec = Jvm.exec) (hb : c.code = cc) {a : Int} {off : Int} {tgt : Nat} (hdg : decode cc pc = .ok (.ifCond .ne off, 3)) (ht : (pc : Int) + off = (tgt : Int)) (ha : -2147483648 ≤ a ∧ a < 2147483648) (kt : ¬ a = 0 → W p l e R s m args below meth c H locs cells slots Q (F0 m tgt ls rest)) (kf : a = 0 → W p l e R s m args below meth c H locs cells slots Q (F0 m (pc + 3) ls rest)) : W p l e R s m args below meth c H locs cells slots Q (F0 m pc ls (.int (iI a) :: rest)) := lv_if_ne hx hb hdg ht (fun q => kt (fun z => q ((iI_eq ha (b := 0) (by decide)).mpr z))) (fun q => kf ((iI_eq ha (b := 0) (by decide)).mp q))
theorem n_if_lt (hx : p.tables.exec = Jvm.exec) (hb : c.code = cc) {a : Int} {off : Int} {tgt : Nat} (hdg : decode cc pc = .ok (.ifCond .lt off, 3)) (ht : (pc : Int) + off = (tgt : Int)) (ha : -2147483648 ≤ a ∧ a < 2147483648) (kt : a < 0 → W p l e R s m args below meth c H locs cells slots Q (F0 m tgt ls rest)) (kf : 0 ≤ a → W p l e R s m args below meth c H locs cells slots Q (F0 m (pc + 3) ls rest)) : W p l e R s m args below meth c H locs cells slots Q (F0 m pc ls (.int (iI a) :: rest)) := lv_if_lt hx hb hdg ht (fun q => kt ((iI_lt ha (b := 0) (by decide)).mp q)) (fun q => kf (Int.not_lt.mp (fun z => q ((iI_lt ha (b := 0) (by decide)).mpr z))))
theorem n_if_ge (hx : p.tables.exec = Jvm.exec) (hb : c.code = cc) {a : Int} {off : Int} {tgt : Nat} (hdg : decode cc pc = .ok (.ifCond .ge off, 3)) (ht : (pc : Int) + off = (tgt : Int)) (ha : -2147483648 ≤ a ∧ a < 2147483648) (kt : 0 ≤ a → W p l e R s m args below meth c H locs cells slots Q (F0 m tgt ls rest)) (kf : a < 0 → W p l e R s m args below meth c H locs cells slots Q (F0 m (pc + 3) ls rest)) : W p l e R s m args below meth c H locs cells slots Q (F0 m pc ls (.int (iI a) :: rest)) := lv_if_ge hx hb hdg ht (fun q => kt ((iI_le (a := 0) (by decide) ha).mp q)) (fun q => kf (Int.not_le.mp (fun z => q ((iI_le (a := 0) (by decide) ha).mpr z))))
theorem n_if_gt (hx : p.tables.exec = Jvm.exec) (hb : c.code = cc) {a : Int} {off : Int} {tgt : Nat} (hdg : decode cc pc = .ok (.ifCond .gt off, 3)) (ht : (pc : Int) + off = (tgt : Int)) (ha : -2147483648 ≤ a ∧ a < 2147483648) (kt : 0 < a → W p l e R s m args below meth c H locs cells slots Q (F0 m tgt ls rest)) (kf : a ≤ 0 → W p l e R s m args below meth c H locs cells slots Q (F0 m (pc + 3) ls rest)) : W p l e R s m args below meth c H locs cells slots Q (F0 m pc ls (.int (iI a) :: rest)) := lv_if_gt hx hb hdg ht (fun q => kt ((iI_lt (a := 0) (by decide) ha).mp q)) (fun q => kf (Int.not_lt.mp (fun z => q ((iI_lt (a := 0) (by decide) ha).mpr z))))
theorem n_if_le (hx : p.tables.exec = Jvm.exec) (hb : c.code = cc) {a : Int} {off : Int} {tgt : Nat} (hdg : decode cc pc = .ok (.ifCond .le off, 3)) (ht : (pc : Int) + off = (tgt : Int)) (ha : -2147483648 ≤ a ∧ a < 2147483648) (kt : a ≤ 0 → W p l e R s m args below meth c H locs cells slots Q (F0 m tgt ls rest)) (kf : 0 < a → W p l e R s m args below meth c H locs cells slots Q (F0 m (pc + 3) ls rest)) : W p l e R s m args below meth c H locs cells slots Q (F0 m pc ls (.int (iI a) :: rest)) := lv_if_le hx hb hdg ht (fun q => kt ((iI_le ha (b := 0) (by decide)).mp q)) (fun q => kf (Int.not_le.mp (fun z => q ((iI_le ha (b := 0) (by decide)).mpr z))))
/-- a truth on the stack -/
theorem n_if_eqB (hx : p.tables.exec = Jvm.exec) (hb : c.code = cc) {t : Prop} [Decidable t] {off : Int} {tgt : Nat} (hdg : decode cc pc = .ok (.ifCond .eq off, 3)) (ht : (pc : Int) + off = (tgt : Int)) (kt : ¬ t → W p l e R s m args below meth c H locs cells slots Q (F0 m tgt ls rest)) (kf : t → W p l e R s m args below meth c H locs cells slots Q (F0 m (pc + 3) ls rest)) : W p l e R s m args below meth c H locs cells slots Q (F0 m pc ls (.int (iI (bI t)) :: rest)) := n_if_eq hx hb hdg ht (by have := bI_rng t; omega) (fun q => kt (fun z => by rw [bI_t z] at q; cases q)) (fun q => kf (Decidable.byContradiction fun z => q (bI_f z)))
theorem n_if_neB (hx : p.tables.exec = Jvm.exec) (hb : c.code = cc) {t : Prop} [Decidable t] {off : Int} {tgt : Nat} (hdg : decode cc pc = .ok (.ifCond .ne off, 3)) (ht : (pc : Int) + off = (tgt : Int)) (kt : t → W p l e R s m args below meth c H locs cells slots Q (F0 m tgt ls rest)) (kf : ¬ t → W p l e R s m args below meth c H locs cells slots Q (F0 m (pc + 3) ls rest)) : W p l e R s m args below meth c H locs cells slots Q (F0 m pc ls (.int (iI (bI t)) :: rest)) := n_if_ne hx hb hdg ht (by have := bI_rng t; omega) (fun q => kt (Decidable.byContradiction fun z => q (bI_f z))) (fun q => kf (fun z => by rw [bI_t z] at q; cases q))
/-- lcmp and the branch behind it see one Int -/
def cmpI (a b : Int) : Int := if b < a then 1 else if a = b then 0 else -1
theorem cmpI_rng (a b : Int) : -1 ≤ cmpI a b ∧ cmpI a b ≤ 1 := by
  unfold cmpI
  split
  · decide
  · split <;> decide
theorem cmpI_lt {a b : Int} : cmpI a b < 0 ↔ a < b := by
  unfold cmpI
  split
  · omega
  · split <;> omega
theorem cmpI_gt {a b : Int} : 0 < cmpI a b ↔ b < a := by
  unfold cmpI
  split
  · omega
  · split <;> omega
theorem cmpI_eq {a b : Int} : cmpI a b = 0 ↔ a = b := by
  unfold cmpI
  split
  · omega
  · split <;> omega
theorem n_lcmp (hx : p.tables.exec = Jvm.exec) (hb : c.code = cc) {a b : Int} (hdg : decode cc pc = .ok (.lcmp, 1)) (ha : -9223372036854775808 ≤ a ∧ a < 9223372036854775808) (hb' : -9223372036854775808 ≤ b ∧ b < 9223372036854775808) (k : W p l e R s m args below meth c H locs cells slots Q (F0 m (pc + 1) ls (.int (iI (cmpI a b)) :: rest))) : W p l e R s m args below meth c H locs cells slots Q (F0 m pc ls (.long (jI b) :: .long (jI a) :: rest)) := by
  refine W.lcmp hx hb hdg ?_
  have e9 : lg_cmp (jI a) (jI b) = iI (cmpI a b) := by
    unfold lg_cmp cmpI
    by_cases h1 : b < a
    · rw [if_pos h1, if_pos ((jI_lt hb' ha).mpr h1)]
      rfl
    · rw [if_neg h1, if_neg (fun q => h1 ((jI_lt hb' ha).mp q))]
      by_cases h2 : a = b
      · rw [if_pos h2, if_pos ((jI_eq ha hb').mpr h2)]
        rfl
      · rw [if_neg h2, if_neg (fun q => h2 ((jI_eq ha hb').mp q))]
        rfl
  rw [e9]
  exact k
end NR
section NW
variable {p : Program} {l : Launch} {e : Env} {R : Room} {s : State} {m : MethodId} {args : Array Value} {below : List Frame} {meth : Method} {c : Code} {H : Heap} {locs : List Loc} {cells slots : Nat} {Q : State → Prop}
variable {cc : ByteArray} {pc : Nat} {ls : Array Slot} {rest : List Value} {G : nG} {N : Nat} {ad : Nat → Nat} {w : Nat → va_E} {A : Nat → Prop} {H0 : Heap}
theorem n_get (hx : p.tables.exec = Jvm.exec) (hb : c.code = cc) {own C : String} {T : u_T} {M ci index : Nat} {Ts : List Cond} (hts : ∀ w ∈ Ts, w.before args s = true) (hin : ∀ w ∈ u_ws C T M, w ∈ Ts) (hown : s.vm.findClass own = some m.cls) (hK : nK G s) (hP : va_P G.1 vwCl (nL N ad w) H) {i : Nat} {fs : List Value} (hi : i < N) (he : w i = .inr (ci, fs)) (hc : vwCl[ci]? = some (C, T, M)) (k : Nat) (hk : k < M) (hlink : (Cond.fieldLink own index (T k).1 (T k).2.1 (T k).2.2.1) ∈ Ts) {v : Value} (hv : fs[k]? = some v) (hdg : decode cc pc = .ok (.getfield index, 3)) (kk : W p l e R s m args below meth c H locs cells slots Q (F0 m (pc + 3) ls (v :: rest))) : W p l e R s m args below meth c H locs cells slots Q (F0 m pc ls (.ref (ad i) :: rest)) := va_get hx hb hts hin hown hK.1 hP i (nL_get hi he) hc k hk (hts _ hlink) (fun _ h => h) hv hdg kk
theorem n_put (hx : p.tables.exec = Jvm.exec) (hb : c.code = cc) {own C : String} {T : u_T} {M ci index : Nat} {Ts : List Cond} (hts : ∀ w ∈ Ts, w.before args s = true) (hin : ∀ w ∈ u_ws C T M, w ∈ Ts) (ty0 : Nat → FieldType) (hty : ∀ k, k < M → parseFieldDescriptor (T k).2.2.1 = some (ty0 k)) (hnm : ∀ a, a < M → ∀ b, b < M → a ≠ b → (T a).2.1 ≠ (T b).2.1) (hown : s.vm.findClass own = some m.cls) (hK : nK G s) (hJ : nJ A N ad) (hP : va_P G.1 vwCl (nL N ad w) H) (hS : va_S A H0 H locs) {i : Nat} {fs : List Value} (hi : i < N) (he : w i = .inr (ci, fs)) (hc : vwCl[ci]? = some (C, T, M)) (k : Nat) (hk : k < M) (hlink : (Cond.fieldLink own index (T k).1 (T k).2.1 (T k).2.2.1) ∈ Ts) (hfin : (T k).2.2.2 = false) {v : Value} (hn : narrow (ty0 k) v = v) (hfit : fits (ty0 k) v = true) (hl : k < fs.length) (hdg : decode cc pc = .ok (.putfield index, 3)) (kk : ∀ (w1 : Nat → va_E) (H1 : Heap) (locs1 : List Loc), w1 i = .inr (ci, fs.set k v) → (∀ j, j ≠ i → w1 j = w j) → va_P G.1 vwCl (nL N ad w1) H1 → va_S A H0 H1 locs1 → W p l e R s m args below meth c H1 locs1 cells slots Q (F0 m (pc + 3) ls rest)) : W p l e R s m args below meth c H locs cells slots Q (F0 m pc ls (v :: .ref (ad i) :: rest)) :=
  va_put hx hb hts hin ty0 hty hnm hown hK.1 hP (hJ.D w) hS i (nL_get hi he) hc k hk (hts _ hlink) (fun _ h => h) hfin (hty k hk) hn hfit hl hdg (fun H1 locs1 hP1 _ hS1 => kk (va_up w i _) H1 locs1 (va_up_self _ _ _) (fun j hj => va_up_ne _ _ hj) (by rw [nL_set] at hP1; exact hP1) hS1)
theorem n_putF (hx : p.tables.exec = Jvm.exec) (hb : c.code = cc) {own C : String} {T : u_T} {M ci index : Nat} {Ts : List Cond} (hts : ∀ w ∈ Ts, w.before args s = true) (hin : ∀ w ∈ u_ws C T M, w ∈ Ts) (ty0 : Nat → FieldType) (hty : ∀ k, k < M → parseFieldDescriptor (T k).2.2.1 = some (ty0 k)) (hnm : ∀ a, a < M → ∀ b, b < M → a ≠ b → (T a).2.1 ≠ (T b).2.1) (hown : s.vm.findClass own = some m.cls) (hK : nK G s) (hJ : nJ A N ad) (hP : va_P G.1 vwCl (nL N ad w) H) (hS : va_S A H0 H locs) {i : Nat} {fs : List Value} (hi : i < N) (he : w i = .inr (ci, fs)) (hc : vwCl[ci]? = some (C, T, M)) (k : Nat) (hk : k < M) (hlink : (Cond.fieldLink own index (T k).1 (T k).2.1 (T k).2.2.1) ∈ Ts) (hfin : (T k).2.2.2 = true) (hin2 : meth.name = "<init>") (hdecl : (T k).1 = own) {v : Value} (hn : narrow (ty0 k) v = v) (hfit : fits (ty0 k) v = true) (hl : k < fs.length) (hdg : decode cc pc = .ok (.putfield index, 3)) (kk : ∀ (w1 : Nat → va_E) (H1 : Heap) (locs1 : List Loc), w1 i = .inr (ci, fs.set k v) → (∀ j, j ≠ i → w1 j = w j) → va_P G.1 vwCl (nL N ad w1) H1 → va_S A H0 H1 locs1 → W p l e R s m args below meth c H1 locs1 cells slots Q (F0 m (pc + 3) ls rest)) : W p l e R s m args below meth c H locs cells slots Q (F0 m pc ls (v :: .ref (ad i) :: rest)) :=
  va_putF hx hb hts hin ty0 hty hnm hown hK.1 hP (hJ.D w) hS i (nL_get hi he) hc k hk (hts _ hlink) (fun _ h => h) hfin hin2 hdecl (hty k hk) hn hfit hl hdg (fun H1 locs1 hP1 _ hS1 => kk (va_up w i _) H1 locs1 (va_up_self _ _ _) (fun j hj => va_up_ne _ _ hj) (by rw [nL_set] at hP1; exact hP1) hS1)
theorem n_iald (hx : p.tables.exec = Jvm.exec) (hb : c.code = cc) (hK : nK G s) (hP : va_P G.1 vwCl (nL N ad w) H) {i n : Nat} {F : Nat → Int} {z : Int} (k : Nat) (hi : i < N) (he : w i = aI G n F) (hz : z = (k : Int)) (hk : k < n) (hn : n < 2147483648) (hdg : decode cc pc = .ok (.iaload, 1)) (kk : W p l e R s m args below meth c H locs cells slots Q (F0 m (pc + 1) ls (.int (iI (F k)) :: rest))) : W p l e R s m args below meth c H locs cells slots Q (F0 m pc ls (.int (iI z) :: .ref (ad i) :: rest)) := by
  refine va_iald hx hb hK.1 hP i 0 (nL_get hi he) rfl (iI_in hz hk hn) hdg ?_
  subst hz
  rw [iI_cl (by omega)]
  exact kk
theorem n_lald (hx : p.tables.exec = Jvm.exec) (hb : c.code = cc) (hK : nK G s) (hP : va_P G.1 vwCl (nL N ad w) H) {i n : Nat} {F : Nat → Int} {z : Int} (k : Nat) (hi : i < N) (he : w i = aJ G n F) (hz : z = (k : Int)) (hk : k < n) (hn : n < 2147483648) (hdg : decode cc pc = .ok (.laload, 1)) (kk : W p l e R s m args below meth c H locs cells slots Q (F0 m (pc + 1) ls (.long (jI (F k)) :: rest))) : W p l e R s m args below meth c H locs cells slots Q (F0 m pc ls (.int (iI z) :: .ref (ad i) :: rest)) := by
  refine va_lald hx hb hK.1 hP i 1 (nL_get hi he) rfl (iI_in hz hk hn) hdg ?_
  subst hz
  rw [iI_cl (by omega)]
  exact kk
theorem n_zald (hx : p.tables.exec = Jvm.exec) (hb : c.code = cc) (hK : nK G s) (hP : va_P G.1 vwCl (nL N ad w) H) {i n : Nat} {F : Nat → Int} {z : Int} (k : Nat) (hi : i < N) (he : w i = aZ G n F) (hz : z = (k : Int)) (hk : k < n) (hn : n < 2147483648) (hdg : decode cc pc = .ok (.baload, 1)) (kk : W p l e R s m args below meth c H locs cells slots Q (F0 m (pc + 1) ls (.int (iI (F k)) :: rest))) : W p l e R s m args below meth c H locs cells slots Q (F0 m pc ls (.int (iI z) :: .ref (ad i) :: rest)) := by
  refine va_zald hx hb hK.1 hP i 2 (nL_get hi he) rfl (iI_in hz hk hn) hdg ?_
  subst hz
  rw [iI_cl (by omega)]
  exact kk
theorem n_aald (hx : p.tables.exec = Jvm.exec) (hb : c.code = cc) (hK : nK G s) (hP : va_P G.1 vwCl (nL N ad w) H) {i n q j : Nat} {f : Nat → Option Nat} {z : Int} (ty : FieldType) (k : Nat) (hi : i < N) (he : w i = aR G q n f) (hq : (nTy G.2)[q]? = some (G.2 q, ty)) (hr : ty.isReference = true) (hz : z = (k : Int)) (hk : k < n) (hn : n < 2147483648) (hf : f k = some j) (hdg : decode cc pc = .ok (.aaload, 1)) (kk : W p l e R s m args below meth c H locs cells slots Q (F0 m (pc + 1) ls (.ref j :: rest))) : W p l e R s m args below meth c H locs cells slots Q (F0 m pc ls (.int (iI z) :: .ref (ad i) :: rest)) := by
  have hin := iI_in hz hk hn
  subst hz
  refine W.aald (v := .ref j) (ty := ty) hx hb (hP i _ (nL_get hi he)) ((hK.1.2 q _ hq).1 n (fun j => va_rf (f j))) hr (fun q => by cases q) (by show ¬ (iI _ < 0 ∨ (arrV _ _ _).slots.size ≤ _); rw [arrV_size]; exact hin) (by show (arrV _ _ _).slots[_]? = _; rw [iI_cl (by omega), arrV_read _ _ hk, hf]; rfl) rfl rfl hdg kk
theorem n_iast (hx : p.tables.exec = Jvm.exec) (hb : c.code = cc) (hK : nK G s) (hJ : nJ A N ad) (hP : va_P G.1 vwCl (nL N ad w) H) (hS : va_S A H0 H locs) {i n : Nat} {F : Nat → Int} {z x : Int} (k : Nat) (hi : i < N) (he : w i = aI G n F) (hz : z = (k : Int)) (hk : k < n) (hn : n < 2147483648) (hdg : decode cc pc = .ok (.iastore, 1)) (kk : ∀ (w1 : Nat → va_E) (H1 : Heap) (locs1 : List Loc), w1 i = aI G n (va_up F k x) → (∀ j, j ≠ i → w1 j = w j) → va_P G.1 vwCl (nL N ad w1) H1 → va_S A H0 H1 locs1 → W p l e R s m args below meth c H1 locs1 cells slots Q (F0 m (pc + 1) ls rest)) : W p l e R s m args below meth c H locs cells slots Q (F0 m pc ls (.int (iI x) :: .int (iI z) :: .ref (ad i) :: rest)) := by
  refine va_iast hx hb hK.1 hP (hJ.D w) hS i 0 (nL_get hi he) rfl (iI_in hz hk hn) hdg (fun H1 locs1 hP1 _ hS1 => ?_)
  subst hz
  rw [nL_set, iI_cl (by omega)] at hP1
  refine kk _ H1 locs1 ?_ (fun j hj => va_up_ne _ _ hj) hP1 hS1
  rw [va_up_self]
  have e9 : upd (fun j => iI (F j)) k (iI x) = fun j => iI (va_up F k x j) := by
    funext j
    unfold upd va_up
    split <;> rfl
  rw [e9]
theorem n_last (hx : p.tables.exec = Jvm.exec) (hb : c.code = cc) (hK : nK G s) (hJ : nJ A N ad) (hP : va_P G.1 vwCl (nL N ad w) H) (hS : va_S A H0 H locs) {i n : Nat} {F : Nat → Int} {z x : Int} (k : Nat) (hi : i < N) (he : w i = aJ G n F) (hz : z = (k : Int)) (hk : k < n) (hn : n < 2147483648) (hdg : decode cc pc = .ok (.lastore, 1)) (kk : ∀ (w1 : Nat → va_E) (H1 : Heap) (locs1 : List Loc), w1 i = aJ G n (va_up F k x) → (∀ j, j ≠ i → w1 j = w j) → va_P G.1 vwCl (nL N ad w1) H1 → va_S A H0 H1 locs1 → W p l e R s m args below meth c H1 locs1 cells slots Q (F0 m (pc + 1) ls rest)) : W p l e R s m args below meth c H locs cells slots Q (F0 m pc ls (.long (jI x) :: .int (iI z) :: .ref (ad i) :: rest)) := by
  refine va_last hx hb hK.1 hP (hJ.D w) hS i 1 (nL_get hi he) rfl (iI_in hz hk hn) hdg (fun H1 locs1 hP1 _ hS1 => ?_)
  subst hz
  rw [nL_set, iI_cl (by omega)] at hP1
  refine kk _ H1 locs1 ?_ (fun j hj => va_up_ne _ _ hj) hP1 hS1
  rw [va_up_self]
  have e9 : vp_updL (fun j => jI (F j)) k (jI x) = fun j => jI (va_up F k x j) := by
    funext j
    unfold vp_updL va_up
    split <;> rfl
  rw [e9]
theorem n_zast (hx : p.tables.exec = Jvm.exec) (hb : c.code = cc) (hK : nK G s) (hJ : nJ A N ad) (hP : va_P G.1 vwCl (nL N ad w) H) (hS : va_S A H0 H locs) {i n : Nat} {F : Nat → Int} {z x : Int} (k : Nat) (hi : i < N) (he : w i = aZ G n F) (hz : z = (k : Int)) (hk : k < n) (hn : n < 2147483648) (hxn : vp_nar .boolean (iI x) = iI x) (hdg : decode cc pc = .ok (.bastore, 1)) (kk : ∀ (w1 : Nat → va_E) (H1 : Heap) (locs1 : List Loc), w1 i = aZ G n (va_up F k x) → (∀ j, j ≠ i → w1 j = w j) → va_P G.1 vwCl (nL N ad w1) H1 → va_S A H0 H1 locs1 → W p l e R s m args below meth c H1 locs1 cells slots Q (F0 m (pc + 1) ls rest)) : W p l e R s m args below meth c H locs cells slots Q (F0 m pc ls (.int (iI x) :: .int (iI z) :: .ref (ad i) :: rest)) := by
  refine va_zast hx hb hK.1 hP (hJ.D w) hS i 2 (nL_get hi he) rfl (iI_in hz hk hn) hdg (fun H1 locs1 hP1 _ hS1 => ?_)
  subst hz
  rw [nL_set, iI_cl (by omega), hxn] at hP1
  refine kk _ H1 locs1 ?_ (fun j hj => va_up_ne _ _ hj) hP1 hS1
  rw [va_up_self]
  have e9 : upd (fun j => iI (F j)) k (iI x) = fun j => iI (va_up F k x j) := by
    funext j
    unfold upd va_up
    split <;> rfl
  rw [e9]
/-- calls of readers -/
theorem n_rd {v : Value} {g : JFrame} {a : Array Value} (hr : va_Run p l e R s m args below meth c H locs cells slots 0 0 g rest (nRd v a) (fun _ => False)) (kk : W p l e R s m args below meth c H locs cells slots Q { g with pc := g.pc + 3, stack := v :: rest }) : W p l e R s m args below meth c H locs cells slots Q g := by
  intro T hT X
  obtain ⟨v', st₀, t, T', L, h0, X', hL, e1, e2, ⟨hv, hh⟩, st⟩ := hr T hT X
  cases hv
  obtain ⟨t2, a1, b1⟩ := kk T' (by rw [e1, hh, h0]) (Stand.forget X' (fun q h => (hL q h).elim))
  exact ⟨t2, st t2 a1, b1⟩
/-- calls of writers -/
theorem n_cI {post : Int → (Nat → va_E) → Prop} {a : Array Value} {st0 : List Value} (hr : va_Run p l e R s m args below meth c H locs cells slots 0 0 (F0 m pc ls st0) rest (nPi G N ad H.size post a) (nA N ad H.size)) (hS : va_S (nA N ad s.heap.size) s.heap H locs)
    (kk : ∀ (r : Int) (w1 : Nat → va_E) (H1 : Heap) (locs1 : List Loc), post r w1 → va_P G.1 vwCl (nL N ad w1) H1 → va_S (nA N ad s.heap.size) s.heap H1 locs1 → W p l e R s m args below meth c H1 locs1 cells slots Q (F0 m (pc + 3) ls (.int (iI r) :: rest))) : W p l e R s m args below meth c H locs cells slots Q (F0 m pc ls st0) := by
  have hA : ∀ q, nA N ad H.size q → nA N ad s.heap.size q := nA.up hS.1
  intro T hT X
  obtain ⟨v, st₀, t, T', L, h0, X', hL, e1, e2, ⟨⟨r, u, hv, hp, hb⟩, hz, hk⟩, st⟩ := hr T hT X
  cases hv
  rw [h0] at hz hk
  obtain ⟨t2, a1, b1⟩ := kk r u T'.heap (locs ++ L) hp (by rw [e1]; exact hb)
    ⟨Nat.le_trans hS.1 (by rw [e1]; exact hz), fun q h1 h2 => by rw [e1, hk q (Nat.lt_of_lt_of_le h1 hS.1) (fun z => h2 (hA q z))]; exact hS.2.1 q h1 h2, fun q hq => by
      rcases List.mem_append.mp hq with h | h
      · exact hS.2.2 q h
      · exact hA _ (hL q h)⟩ T' rfl X'
  exact ⟨t2, st t2 a1, b1⟩
theorem n_cL {post : Int → (Nat → va_E) → Prop} {a : Array Value} {st0 : List Value} (hr : va_Run p l e R s m args below meth c H locs cells slots 0 0 (F0 m pc ls st0) rest (nPl G N ad H.size post a) (nA N ad H.size)) (hS : va_S (nA N ad s.heap.size) s.heap H locs)
    (kk : ∀ (r : Int) (w1 : Nat → va_E) (H1 : Heap) (locs1 : List Loc), post r w1 → va_P G.1 vwCl (nL N ad w1) H1 → va_S (nA N ad s.heap.size) s.heap H1 locs1 → W p l e R s m args below meth c H1 locs1 cells slots Q (F0 m (pc + 3) ls (.long (jI r) :: rest))) : W p l e R s m args below meth c H locs cells slots Q (F0 m pc ls st0) := by
  have hA : ∀ q, nA N ad H.size q → nA N ad s.heap.size q := nA.up hS.1
  intro T hT X
  obtain ⟨v, st₀, t, T', L, h0, X', hL, e1, e2, ⟨⟨r, u, hv, hp, hb⟩, hz, hk⟩, st⟩ := hr T hT X
  cases hv
  rw [h0] at hz hk
  obtain ⟨t2, a1, b1⟩ := kk r u T'.heap (locs ++ L) hp (by rw [e1]; exact hb)
    ⟨Nat.le_trans hS.1 (by rw [e1]; exact hz), fun q h1 h2 => by rw [e1, hk q (Nat.lt_of_lt_of_le h1 hS.1) (fun z => h2 (hA q z))]; exact hS.2.1 q h1 h2, fun q hq => by
      rcases List.mem_append.mp hq with h | h
      · exact hS.2.2 q h
      · exact hA _ (hL q h)⟩ T' rfl X'
  exact ⟨t2, st t2 a1, b1⟩
theorem n_cV {post : (Nat → va_E) → Prop} {a : Array Value} {st0 : List Value} (hr : va_Run p l e R s m args below meth c H locs cells slots 0 0 (F0 m pc ls st0) rest (nPv G N ad H.size post a) (nA N ad H.size)) (hS : va_S (nA N ad s.heap.size) s.heap H locs)
    (kk : ∀ (w1 : Nat → va_E) (H1 : Heap) (locs1 : List Loc), post w1 → va_P G.1 vwCl (nL N ad w1) H1 → va_S (nA N ad s.heap.size) s.heap H1 locs1 → W p l e R s m args below meth c H1 locs1 cells slots Q (F0 m (pc + 3) ls rest)) : W p l e R s m args below meth c H locs cells slots Q (F0 m pc ls st0) := by
  have hA : ∀ q, nA N ad H.size q → nA N ad s.heap.size q := nA.up hS.1
  intro T hT X
  obtain ⟨v, st₀, t, T', L, h0, X', hL, e1, e2, ⟨⟨u, hv, hp, hb⟩, hz, hk⟩, st⟩ := hr T hT X
  cases hv
  rw [h0] at hz hk
  obtain ⟨t2, a1, b1⟩ := kk u T'.heap (locs ++ L) hp (by rw [e1]; exact hb)
    ⟨Nat.le_trans hS.1 (by rw [e1]; exact hz), fun q h1 h2 => by rw [e1, hk q (Nat.lt_of_lt_of_le h1 hS.1) (fun z => h2 (hA q z))]; exact hS.2.1 q h1 h2, fun q hq => by
      rcases List.mem_append.mp hq with h | h
      · exact hS.2.2 q h
      · exact hA _ (hL q h)⟩ T' rfl X'
  exact ⟨t2, st t2 a1, b1⟩
end NW
section NE
variable {p : Program} {l : Launch} {e : Env} {R : Room} {s : State} {m : MethodId} {args : Array Value} {below : List Frame} {meth : Method} {c : Code} {H : Heap} {locs : List Loc} {cells slots : Nat} {Q : State → Prop}
variable {cc : ByteArray} {pc : Nat} {ls : Array Slot} {rest : List Value} {G : nG} {N : Nat} {ad : Nat → Nat} {w : Nat → va_E} {A : Nat → Prop} {H0 : Heap}
theorem n_rdF {v : Value} {st0 : List Value} {a : Array Value} (hr : va_Run p l e R s m args below meth c H locs cells slots 0 0 (F0 m pc ls st0) rest (nRd v a) (fun _ => False)) (kk : W p l e R s m args below meth c H locs cells slots Q (F0 m (pc + 3) ls (v :: rest))) : W p l e R s m args below meth c H locs cells slots Q (F0 m pc ls st0) := n_rd hr kk
theorem n_iretR {z z' : Int} (hQ : Q = MQ below (nRd (.int (iI z'))) args s cells slots (fun _ => False)) (hx : p.tables.exec = Jvm.exec) (hb : c.code = cc) (hr : meth.sig.returnType = some .int) (hlocks : meth.locks = false) (hz : z = z') (hdg : decode cc pc = .ok (.ireturn, 1)) : W p l e R s m args below meth c s.heap [] cells slots Q (F0 m pc ls [.int (iI z)]) := by
  subst hQ
  exact W.iret (v := iI z) hx hb hr (fun t ht _ => ⟨by rw [hz], ht⟩) (fun _ h => by cases h) hdg hlocks
theorem n_zretR {z : Int} {t : Prop} [Decidable t] (hQ : Q = MQ below (nRd (.int (iI (bI t)))) args s cells slots (fun _ => False)) (hx : p.tables.exec = Jvm.exec) (hb : c.code = cc) (hr : meth.sig.returnType = some .boolean) (hlocks : meth.locks = false) (hz : z = bI t) (hdg : decode cc pc = .ok (.ireturn, 1)) : W p l e R s m args below meth c s.heap [] cells slots Q (F0 m pc ls [.int (iI z)]) := by
  subst hQ
  exact W.zret (v := iI z) (ty := .boolean) hx hb hr (by rw [hz]; exact bI_nar t) (fun t ht _ => ⟨by rw [hz], ht⟩) (fun _ h => by cases h) hdg hlocks
theorem n_lretR {z z' : Int} (hQ : Q = MQ below (nRd (.long (jI z'))) args s cells slots (fun _ => False)) (hx : p.tables.exec = Jvm.exec) (hb : c.code = cc) (hr : meth.sig.returnType = some .long) (hlocks : meth.locks = false) (hz : z = z') (hdg : decode cc pc = .ok (.lreturn, 1)) : W p l e R s m args below meth c s.heap [] cells slots Q (F0 m pc ls [.long (jI z)]) := by
  subst hQ
  exact W.lret (v := jI z) hx hb hr (fun t ht _ => ⟨by rw [hz], ht⟩) (fun _ h => by cases h) hdg hlocks
theorem n_aretR {v v' : Value} {rt : FieldType} (hQ : Q = MQ below (nRd v') args s cells slots (fun _ => False)) (hx : p.tables.exec = Jvm.exec) (hb : c.code = cc) (hr : meth.sig.returnType = some rt) (hrt : (∃ n, rt = .object n) ∨ ∃ t, rt = .array t) (hlocks : meth.locks = false) (hv : v = .null ∨ ∃ a, v = .ref a) (hz : v = v') (hdg : decode cc pc = .ok (.areturn, 1)) : W p l e R s m args below meth c s.heap [] cells slots Q (F0 m pc ls [v]) := by
  subst hQ
  exact W.aret (v := v) hx hb hr hrt hv (fun t ht _ => ⟨by rw [hz], ht⟩) (fun _ h => by cases h) hdg hlocks
theorem n_iretP {z : Int} {post : Int → (Nat → va_E) → Prop} (hQ : Q = MQ below (nPi G N ad s.heap.size post) args s cells slots (nA N ad s.heap.size)) (hx : p.tables.exec = Jvm.exec) (hb : c.code = cc) (hr : meth.sig.returnType = some .int) (hlocks : meth.locks = false) (hP : va_P G.1 vwCl (nL N ad w) H) (hS : va_S (nA N ad s.heap.size) s.heap H locs) (hdg : decode cc pc = .ok (.ireturn, 1)) (hpost : post z w) : W p l e R s m args below meth c H locs cells slots Q (F0 m pc ls [.int (iI z)]) := by
  subst hQ
  exact W.iret (v := iI z) hx hb hr (fun t ht _ => ⟨⟨z, w, rfl, hpost, by rw [ht]; exact hP⟩, hS.F ht⟩) hS.2.2 hdg hlocks
theorem n_zretP {z : Int} {t : Prop} [Decidable t] {post : Int → (Nat → va_E) → Prop} (hQ : Q = MQ below (nPi G N ad s.heap.size post) args s cells slots (nA N ad s.heap.size)) (hx : p.tables.exec = Jvm.exec) (hb : c.code = cc) (hr : meth.sig.returnType = some .boolean) (hlocks : meth.locks = false) (hz : z = bI t) (hP : va_P G.1 vwCl (nL N ad w) H) (hS : va_S (nA N ad s.heap.size) s.heap H locs) (hdg : decode cc pc = .ok (.ireturn, 1)) (hpost : post z w) : W p l e R s m args below meth c H locs cells slots Q (F0 m pc ls [.int (iI z)]) := by
  subst hQ
  exact W.zret (v := iI z) (ty := .boolean) hx hb hr (by rw [hz]; exact bI_nar t) (fun t ht _ => ⟨⟨z, w, rfl, hpost, by rw [ht]; exact hP⟩, hS.F ht⟩) hS.2.2 hdg hlocks
theorem n_lretP {z : Int} {post : Int → (Nat → va_E) → Prop} (hQ : Q = MQ below (nPl G N ad s.heap.size post) args s cells slots (nA N ad s.heap.size)) (hx : p.tables.exec = Jvm.exec) (hb : c.code = cc) (hr : meth.sig.returnType = some .long) (hlocks : meth.locks = false) (hP : va_P G.1 vwCl (nL N ad w) H) (hS : va_S (nA N ad s.heap.size) s.heap H locs) (hdg : decode cc pc = .ok (.lreturn, 1)) (hpost : post z w) : W p l e R s m args below meth c H locs cells slots Q (F0 m pc ls [.long (jI z)]) := by
  subst hQ
  exact W.lret (v := jI z) hx hb hr (fun t ht _ => ⟨⟨z, w, rfl, hpost, by rw [ht]; exact hP⟩, hS.F ht⟩) hS.2.2 hdg hlocks
theorem n_vretP {post : (Nat → va_E) → Prop} (hQ : Q = MQ below (nPv G N ad s.heap.size post) args s cells slots (nA N ad s.heap.size)) (hx : p.tables.exec = Jvm.exec) (hb : c.code = cc) (hr : meth.sig.returnType = none) (hlocks : meth.locks = false) (hP : va_P G.1 vwCl (nL N ad w) H) (hS : va_S (nA N ad s.heap.size) s.heap H locs) (hdg : decode cc pc = .ok (.return_, 1)) (hpost : post w) : W p l e R s m args below meth c H locs cells slots Q (F0 m pc ls []) := by
  subst hQ
  exact W.vret hx hb hr (fun t ht _ => ⟨⟨w, rfl, hpost, by rw [ht]; exact hP⟩, hS.F ht⟩) hS.2.2 hdg hlocks
end NE
/-- a method from its entry -/
theorem n_ent {l : Launch} {y : MethodName} {ws ws' : List Cond} {rm : Room} {av : List Value} {G : nG} {N : Nat} {ad : Nat → Nat} {w : Nat → va_E} {sz : Nat} {Qc : Array Value → State → Outcome → State → Prop} {mc ms : Nat} {free : Addr → Prop} {cc : ByteArray} {maxL : Nat} {ret : Option FieldType}
    (hy : plainName y.cls = true) (hw : ws = Cond.code y cc maxL ret :: ws') (hlen : (lg_sl av).length ≤ maxL)
    (body : ∀ (p : Program) (e : Env) (s : State) (m : MethodId) (below : List Frame) (meth : Method) (c : Code), p.tables.exec = Jvm.exec → c.code = cc → meth.sig.returnType = ret → c.maxLocals = maxL → meth.locks = false → (∀ w ∈ ws, w.before av.toArray s = true) → s.vm.findClass y.cls = some m.cls → meth.name = y.name → s.heap.size = sz → va_P G.1 vwCl (nL N ad w) s.heap → nK G s → nInj N ad → ∀ Q : State → Prop, Q = MQ below Qc av.toArray s mc ms free → ∀ ls : Array Slot, lv_has ls maxL (lv_args 0 av) → W p l e rm s m av.toArray below meth c s.heap [] 0 0 Q (F0 m 0 ls [])) :
    Met l y ws rm (va_Pc av (nB G N ad w sz)) Qc mc ms free := by
  refine Met.ofW (cc := cc) (maxL := maxL) (ret := ret) hy hw ?_
  intro p e s m args below meth c s₁ B hml hv
  obtain ⟨rfl, hsz, hP, hK, hI⟩ := hv
  rw [lg_entry_eq]
  exact body p e s m below meth c B.exec B.bytes B.returns hml B.notSynchronized (atoms_spec (ws := ws) B.pre) (findClass_of_methodNamed B.named) (name_of_methodNamed B.named B.method).1 hsz hP hK hI _ rfl _ (lv_entry av hlen)
/-- a method that reads no cell -/
theorem n_ent0 {l : Launch} {y : MethodName} {ws ws' : List Cond} {rm : Room} {av : List Value} {Qc : Array Value → State → Outcome → State → Prop} {mc ms : Nat} {free : Addr → Prop} {cc : ByteArray} {maxL : Nat} {ret : Option FieldType}
    (hy : plainName y.cls = true) (hw : ws = Cond.code y cc maxL ret :: ws') (hlen : (lg_sl av).length ≤ maxL)
    (body : ∀ (p : Program) (e : Env) (s : State) (m : MethodId) (below : List Frame) (meth : Method) (c : Code), p.tables.exec = Jvm.exec → c.code = cc → meth.sig.returnType = ret → c.maxLocals = maxL → meth.locks = false → (∀ w ∈ ws, w.before av.toArray s = true) → s.vm.findClass y.cls = some m.cls → ∀ Q : State → Prop, Q = MQ below Qc av.toArray s mc ms free → ∀ ls : Array Slot, lv_has ls maxL (lv_args 0 av) → W p l e rm s m av.toArray below meth c s.heap [] 0 0 Q (F0 m 0 ls [])) :
    Met l y ws rm (fun v _ => v = av.toArray) Qc mc ms free := by
  refine Met.ofW (cc := cc) (maxL := maxL) (ret := ret) hy hw ?_
  intro p e s m args below meth c s₁ B hml hv
  subst hv
  rw [lg_entry_eq]
  exact body p e s m below meth c B.exec B.bytes B.returns hml B.notSynchronized (atoms_spec (ws := ws) B.pre) (findClass_of_methodNamed B.named) _ rfl _ (lv_entry av hlen)
end
section
theorem lc_s {x : Nat × Value} {l l2 : List (Nat × Value)} (t : l = l2) : x :: l = x :: l2 := by rw [t]
theorem lc_i {k : Nat} {a b : Int} {l l2 : List (Nat × Value)} (h : a = b) (t : l = l2) : (k, Value.int (iI a)) :: l = (k, Value.int (iI b)) :: l2 := by rw [h, t]
theorem lc_j {k : Nat} {a b : Int} {l l2 : List (Nat × Value)} (h : a = b) (t : l = l2) : (k, Value.long (jI a)) :: l = (k, Value.long (jI b)) :: l2 := by rw [h, t]
theorem lv_cast {ls : Array Slot} {n : Nat} {l l2 : List (Nat × Value)} (h : lv_has ls n l) (e : l = l2) : lv_has ls n l2 := e ▸ h
set_option maxHeartbeats 4000000 in
set_option maxRecDepth 100000 in
theorem c_X6_within {l : Launch} (a b c : Int) (ha : -2147483648 ≤ a ∧ a < 2147483648) (hb_ : -2147483648 ≤ b ∧ b < 2147483648) (hc_ : -2147483648 ≤ c ∧ c < 2147483648) : Met l yX6_within wsX6_within ({ frames := 0, cells := 0, slots := 0, locals := 0 }) (fun v _ => v = ([.int (iI a), .int (iI b), .int (iI c)] : List Value).toArray) (nRd (.int (iI (bI (a ≤ b ∧ b ≤ c))))) 0 0 (fun _ => False) := by
  refine n_ent0 (cc := cX6_within) (maxL := 3) (ret := (some .boolean)) (by decide) rfl (Nat.le_of_ble_eq_true rfl) ?_
  intro p e s m below meth cd hx hb hr hml hlocks hts hown Q hQ ls hl
  have hown : s.vm.findClass RX6 = some m.cls := hown
  have hl : lv_has ls 3 [(0, .int (iI a)), (1, .int (iI b)), (2, .int (iI c))] := hl
  refine lv_iload_n hx hb dX6_within_0 rfl (lv_at hl 0 rfl) ?_
  refine lv_iload_n hx hb dX6_within_1 rfl (lv_at hl 1 rfl) ?_
  refine n_icmp_gt (tgt := 14) hx hb dX6_within_2 (by decide) (by omega) (by omega) (fun hc2 => ?_) (fun hc2 => ?_)
  · skip
    refine n_iconst hx hb dX6_within_14 ?_
    exact n_zretR hQ hx hb hr hlocks (by unfold bI; split <;> omega) dX6_within_15
  · skip
    refine lv_iload_n hx hb dX6_within_5 rfl (lv_at hl 1 rfl) ?_
    refine lv_iload_n hx hb dX6_within_6 rfl (lv_at hl 2 rfl) ?_
    refine n_icmp_gt (tgt := 14) hx hb dX6_within_7 (by decide) (by omega) (by omega) (fun hc7 => ?_) (fun hc7 => ?_)
    · skip
      refine n_iconst hx hb dX6_within_14 ?_
      exact n_zretR hQ hx hb hr hlocks (by unfold bI; split <;> omega) dX6_within_15
    · skip
      refine n_iconst hx hb dX6_within_10 ?_
      refine lv_goto (tgt := 15) hx hb dX6_within_11 (by decide) ?_
      exact n_zretR hQ hx hb hr hlocks (by unfold bI; split <;> omega) dX6_within_15
set_option maxHeartbeats 4000000 in
set_option maxRecDepth 100000 in
theorem c_X6_isRule {l : Launch} (a : Int) (ha : -2147483648 ≤ a ∧ a < 2147483648) : Met l yX6_isRule wsX6_isRule ({ frames := 1, cells := 0, slots := 0, locals := 22 }) (fun v _ => v = ([.int (iI a)] : List Value).toArray) (nRd (.int (iI (bI (0 ≤ a ∧ a ≤ 3))))) 0 0 (fun _ => False) := by
  refine n_ent0 (cc := cX6_isRule) (maxL := 1) (ret := (some .boolean)) (by decide) rfl (Nat.le_of_ble_eq_true rfl) ?_
  intro p e s m below meth cd hx hb hr hml hlocks hts hown Q hQ ls hl
  have hown : s.vm.findClass RX6 = some m.cls := hown
  have hl : lv_has ls 1 [(0, .int (iI a))] := hl
  refine n_iconst hx hb dX6_isRule_0 ?_
  refine lv_iload_n hx hb dX6_isRule_1 rfl (lv_at hl 0 rfl) ?_
  refine n_iconst hx hb dX6_isRule_2 ?_
  refine n_rdF (va_runS (As := [.int (iI 0), .int (iI a), .int (iI 3)]) (rest := []) ⟨hx, hb, hml, hown, hts⟩ (c_X6_within 0 a 3 (by omega) (by omega) (by omega)) (va_cwS 3 hts (nT_S wl_X6_49 wt_X6_within wn_X6 wc_X6_within) rfl rfl rfl (by decide +kernel) ⟨Nat.le_of_ble_eq_true rfl, Nat.le_of_ble_eq_true rfl⟩) preEq rfl rfl hl.1 rfl (lv_room (Nat.le_of_ble_eq_true rfl)) dX6_isRule_3 ⟨Nat.zero_le _, Nat.zero_le _⟩) ?_
  exact n_zretR hQ hx hb hr hlocks rfl dX6_isRule_6
set_option maxHeartbeats 4000000 in
set_option maxRecDepth 100000 in
theorem c_X6_isSum {l : Launch} (a : Int) (ha : -2147483648 ≤ a ∧ a < 2147483648) : Met l yX6_isSum wsX6_isSum ({ frames := 1, cells := 0, slots := 0, locals := 22 }) (fun v _ => v = ([.int (iI a)] : List Value).toArray) (nRd (.int (iI (bI (0 ≤ a ∧ a ≤ 2000))))) 0 0 (fun _ => False) := by
  refine n_ent0 (cc := cX6_isSum) (maxL := 1) (ret := (some .boolean)) (by decide) rfl (Nat.le_of_ble_eq_true rfl) ?_
  intro p e s m below meth cd hx hb hr hml hlocks hts hown Q hQ ls hl
  have hown : s.vm.findClass RX6 = some m.cls := hown
  have hl : lv_has ls 1 [(0, .int (iI a))] := hl
  refine n_iconst hx hb dX6_isSum_0 ?_
  refine lv_iload_n hx hb dX6_isSum_1 rfl (lv_at hl 0 rfl) ?_
  refine n_sipush hx hb dX6_isSum_2 (by decide) ?_
  refine n_rdF (va_runS (As := [.int (iI 0), .int (iI a), .int (iI 2000)]) (rest := []) ⟨hx, hb, hml, hown, hts⟩ (c_X6_within 0 a 2000 (by omega) (by omega) (by omega)) (va_cwS 3 hts (nT_S wl_X6_49 wt_X6_within wn_X6 wc_X6_within) rfl rfl rfl (by decide +kernel) ⟨Nat.le_of_ble_eq_true rfl, Nat.le_of_ble_eq_true rfl⟩) preEq rfl rfl hl.1 rfl (lv_room (Nat.le_of_ble_eq_true rfl)) dX6_isSum_5 ⟨Nat.zero_le _, Nat.zero_le _⟩) ?_
  exact n_zretR hQ hx hb hr hlocks rfl dX6_isSum_8
set_option maxHeartbeats 4000000 in
set_option maxRecDepth 100000 in
theorem c_X6_wholeTimes {l : Launch} (a d : Int) (ha : 0 ≤ a ∧ a < 2147483648) (hd : 0 < d ∧ d < 2147483648) : Met l yX6_wholeTimes wsX6_wholeTimes ({ frames := 0, cells := 0, slots := 0, locals := 0 }) (fun v _ => v = ([.int (iI a), .int (iI d)] : List Value).toArray) (nRd (.int (iI (a / d)))) 0 0 (fun _ => False) := by
  refine n_ent0 (cc := cX6_wholeTimes) (maxL := 2) (ret := (some .int)) (by decide) rfl (Nat.le_of_ble_eq_true rfl) ?_
  intro p e s m below meth cd hx hb hr hml hlocks hts hown Q hQ ls hl
  have hown : s.vm.findClass RX6 = some m.cls := hown
  have hl : lv_has ls 2 [(0, .int (iI a)), (1, .int (iI d))] := hl
  refine lv_iload_n hx hb dX6_wholeTimes_0 rfl (lv_at hl 1 rfl) ?_
  refine n_iconst hx hb dX6_wholeTimes_1 ?_
  refine n_icmp_ge (tgt := 9) hx hb dX6_wholeTimes_2 (by decide) (by omega) (by omega) (fun hc2 => ?_) (fun hc2 => ?_)
  · skip
    refine lv_iload_n hx hb dX6_wholeTimes_9 rfl (lv_at hl 0 rfl) ?_
    refine lv_iload_n hx hb dX6_wholeTimes_10 rfl (lv_at hl 1 rfl) ?_
    refine n_idivN hx hb dX6_wholeTimes_11 (by omega) (by omega) ?_
    exact n_iretR hQ hx hb hr hlocks rfl dX6_wholeTimes_12
  · skip
    refine n_iconst hx hb dX6_wholeTimes_5 ?_
    refine lv_goto (tgt := 12) hx hb dX6_wholeTimes_6 (by decide) ?_
    exact n_iretR hQ hx hb hr hlocks (by omega) dX6_wholeTimes_12
set_option maxHeartbeats 4000000 in
set_option maxRecDepth 100000 in
theorem c_X1_isCoin {l : Launch} {G : nG} {N : Nat} {ad : Nat → Nat} {w : Nat → va_E} {sz : Nat} (i cnt : Nat) (z : Int) (hN : i + 3 < N) (hc : cnt ≤ 8) (hz : -2147483648 ≤ z ∧ z < 2147483648) (f_o : w i = .inr (1, [.int (iI ((cnt : Nat) : Int)), .ref (ad (i + 1)), .ref (ad (i + 2)), .ref (ad (i + 3))])) : Met l yX1_isCoin wsX1_isCoin ({ frames := 1, cells := 0, slots := 0, locals := 22 }) (va_Pc [.ref (ad i), .int (iI z)] (nB G N ad w sz)) (nRd (.int (iI (bI (0 ≤ z ∧ z < cnt))))) 0 0 (fun _ => False) := by
  refine n_ent (cc := cX1_isCoin) (maxL := 2) (ret := (some .boolean)) (by decide) rfl (Nat.le_of_ble_eq_true rfl) ?_
  intro p e s m below meth cd hx hb hr hml hlocks hts hown hnm hsz hP hK hI Q hQ ls hl
  have hown : s.vm.findClass RX1 = some m.cls := hown
  have hl : lv_has ls 2 [(0, .ref (ad i)), (1, .int (iI z))] := hl
  refine n_iconst hx hb dX1_isCoin_0 ?_
  refine lv_iload_n hx hb dX1_isCoin_1 rfl (lv_at hl 1 rfl) ?_
  refine lv_aload_n hx hb dX1_isCoin_2 rfl (lv_at hl 0 rfl) ?_
  refine n_get hx hb hts u_X1 hown hK hP (by omega) f_o rfl 0 (by decide) (nT_m wf_X1_9) rfl dX1_isCoin_3 ?_
  refine n_iconst hx hb dX1_isCoin_6 ?_
  refine n_isub hx hb dX1_isCoin_7 ?_
  refine n_rdF (va_runSN (As := [.int (iI 0), .int (iI z), .int (iI (((cnt : Nat) : Int) - 1))]) (rest := []) ⟨hx, hb, hml, hown, hts⟩ (c_X6_within 0 z (((cnt : Nat) : Int) - 1) (by omega) (by omega) (by omega)) ⟨va_cnB 3 hts (nT_N wc_X6_within) rfl rfl rfl (hK.2 _ (List.mem_of_getElem? (i := 4) rfl)) (hts _ (nT_m wn_X6)) (by decide +kernel) ⟨Nat.le_of_ble_eq_true rfl, Nat.le_of_ble_eq_true rfl⟩, hts _ (nT_m wt_X6_within), trivial⟩ preEq rfl rfl hl.1 rfl (lv_room (Nat.le_of_ble_eq_true rfl)) dX1_isCoin_8 ⟨Nat.zero_le _, Nat.zero_le _⟩) ?_
  exact n_zretR hQ hx hb hr hlocks (bI_c (by omega)) dX1_isCoin_11
theorem iI_wrap (z : Int) : iI (z + 4294967296) = iI z := by
  rw [← iI_add]
  have h : iI 4294967296 = 0 := by decide
  rw [h, Int32.add_zero]
theorem c_X1_isCoinW {l : Launch} {G : nG} {N : Nat} {ad : Nat → Nat} {w : Nat → va_E} {sz : Nat} (i cnt : Nat) (z : Int) (hN : i + 3 < N) (hc : cnt ≤ 8) (hz : -2147483648 ≤ z ∧ z < 2147483648) (f_o : w i = .inr (1, [.int (iI ((cnt : Nat) : Int)), .ref (ad (i + 1)), .ref (ad (i + 2)), .ref (ad (i + 3))])) : Met l yX1_isCoin wsX1_isCoin ({ frames := 1, cells := 0, slots := 0, locals := 22 }) (va_Pc [.ref (ad i), .int (iI (z - 10))] (nB G N ad w sz)) (nRd (.int (iI (bI (10 ≤ z ∧ z < 10 + (cnt : Int)))))) 0 0 (fun _ => False) := by
  by_cases h : -2147483648 ≤ z - 10
  · have e1 : bI (10 ≤ z ∧ z < 10 + (cnt : Int)) = bI (0 ≤ z - 10 ∧ z - 10 < (cnt : Int)) := bI_c (by omega)
    rw [e1]
    exact c_X1_isCoin i cnt (z - 10) hN hc (by omega) f_o
  · have e1 : bI (10 ≤ z ∧ z < 10 + (cnt : Int)) = bI (0 ≤ z - 10 + 4294967296 ∧ z - 10 + 4294967296 < (cnt : Int)) := bI_c (by omega)
    rw [e1, ← iI_wrap (z - 10)]
    exact c_X1_isCoin i cnt (z - 10 + 4294967296) hN hc (by omega) f_o
end
section

/-! ===== Coinage: what its methods do, as functions ===== -/
def anyV (val : Nat → Nat) (z : Int) : Nat → Bool
  | 0 => false
  | n + 1 => anyV val z n || decide ((val n : Int) = z)
theorem anyV_up {val : Nat → Nat} {z : Int} {a : Nat} (h : anyV val z a = true) : ∀ b, anyV val z (a + b) = true
  | 0 => h
  | b + 1 => by
    show (anyV val z (a + b) || _) = true
    rw [anyV_up h b]
    rfl
theorem anyV_le {val : Nat → Nat} {z : Int} {a b : Nat} (h : anyV val z a = true) (hab : a ≤ b) : anyV val z b = true := by
  have := anyV_up h (b - a)
  rwa [show a + (b - a) = b by omega] at this
theorem anyV_t {val : Nat → Nat} {z : Int} {n : Nat} (h : (val n : Int) = z) : anyV val z (n + 1) = true := by
  show (anyV val z n || decide _) = true
  simp [h]
theorem anyV_f {val : Nat → Nat} {z : Int} {n : Nat} (h0 : anyV val z n = false) (h : ¬ (val n : Int) = z) : anyV val z (n + 1) = false := by
  show (anyV val z n || decide _) = false
  simp [h, h0]
/-- where a new coin of value v goes among the first n of fal -/
def insP (val fal : Nat → Nat) (v : Nat) : Nat → Nat
  | 0 => 0
  | q + 1 => if val (fal q) < v then insP val fal v q else q + 1
theorem insP_lt {val fal : Nat → Nat} {v q : Nat} (h : val (fal q) < v) : insP val fal v (q + 1) = insP val fal v q := if_pos h
theorem insP_ge {val fal : Nat → Nat} {v q : Nat} (h : ¬ val (fal q) < v) : insP val fal v (q + 1) = q + 1 := if_neg h
def insQ (fal : Nat → Nat) (n q : Nat) : Nat → Nat := fun k => if q < k ∧ k ≤ n then fal (k - 1) else fal k
def insF (fal : Nat → Nat) (n q : Nat) : Nat → Nat := fun k => if k = q then n else if q < k ∧ k ≤ n then fal (k - 1) else fal k
theorem insQ_0 (fal : Nat → Nat) (n : Nat) : insQ fal n n = fal := by
  funext k
  unfold insQ
  rw [if_neg (by omega)]
theorem insQ_s (fal : Nat → Nat) {n q : Nat} (h : q + 1 ≤ n) : (va_up (fun k => (insQ fal n (q + 1) k : Int)) (q + 1) ((insQ fal n (q + 1) q : Nat) : Int)) = fun k => (insQ fal n q k : Int) := by
  funext k
  unfold va_up insQ
  by_cases h1 : k = q + 1
  · subst h1
    rw [if_pos rfl, if_neg (by omega), if_pos (by omega)]
    rfl
  · rw [if_neg h1]
    dsimp only
    by_cases h2 : q + 1 < k ∧ k ≤ n
    · rw [if_pos h2, if_pos (by omega)]
    · rw [if_neg h2, if_neg (by omega)]
theorem insQ_F (fal : Nat → Nat) (n q : Nat) : (va_up (fun k => (insQ fal n q k : Int)) q (n : Int)) = fun k => (insF fal n q k : Int) := by
  funext k
  unfold va_up insQ insF
  by_cases h1 : k = q
  · rw [if_pos h1, if_pos h1]
  · rw [if_neg h1, if_neg h1]
theorem insQ_lo (fal : Nat → Nat) {n q k : Nat} (h : k ≤ q) : insQ fal n q k = fal k := by
  unfold insQ
  rw [if_neg (by omega)]
/-- the fewest coins, one coin of value v more, the t sums from v on done -/
def imp (lst : Nat → Int) (v : Nat) : Nat → (Nat → Int)
  | 0 => lst
  | t + 1 => if imp lst v t t ≠ -1 ∧ (imp lst v t (v + t) = -1 ∨ imp lst v t t + 1 < imp lst v t (v + t)) then va_up (imp lst v t) (v + t) (imp lst v t t + 1) else imp lst v t
theorem imp_y {lst : Nat → Int} {v t : Nat} (h : imp lst v t t ≠ -1 ∧ (imp lst v t (v + t) = -1 ∨ imp lst v t t + 1 < imp lst v t (v + t))) : imp lst v (t + 1) = va_up (imp lst v t) (v + t) (imp lst v t t + 1) := if_pos h
theorem imp_n {lst : Nat → Int} {v t : Nat} (h : ¬ (imp lst v t t ≠ -1 ∧ (imp lst v t (v + t) = -1 ∨ imp lst v t t + 1 < imp lst v t (v + t)))) : imp lst v (t + 1) = imp lst v t := if_neg h
theorem imp_rng {lst : Nat → Int} {v : Nat} (hv : 1 ≤ v) (h : ∀ k, k < 2001 → -1 ≤ lst k ∧ lst k ≤ k) : ∀ t, v + t ≤ 2001 → ∀ k, k < 2001 → -1 ≤ imp lst v t k ∧ imp lst v t k ≤ k
  | 0, _ => h
  | t + 1, ht => by
    intro k hk
    have ih := imp_rng hv h t (by omega)
    by_cases hc : imp lst v t t ≠ -1 ∧ (imp lst v t (v + t) = -1 ∨ imp lst v t t + 1 < imp lst v t (v + t))
    · rw [imp_y hc]
      have h1 := ih t (by omega)
      have h2 := ih k hk
      unfold va_up
      split <;> omega
    · rw [imp_n hc]
      exact ih k hk
/-- how many coins of value v, f at most, FEWEST for 'left' begins with -/
def wfT (lst : Nat → Int) (v : Nat) : Nat → Nat → Nat
  | 0, _ => 0
  | f + 1, left => if lst (left - v) = lst left - 1 then wfT lst v f (left - v) + 1 else 0
theorem wfT_y {lst : Nat → Int} {v f left : Nat} (h : lst (left - v) = lst left - 1) : wfT lst v (f + 1) left = wfT lst v f (left - v) + 1 := if_pos h
theorem wfT_n {lst : Nat → Int} {v f left : Nat} (h : ¬ lst (left - v) = lst left - 1) : wfT lst v (f + 1) left = 0 := if_neg h
theorem wfT_le (lst : Nat → Int) (v : Nat) : ∀ f left, wfT lst v f left ≤ f
  | 0, _ => Nat.le_refl 0
  | f + 1, left => by
    by_cases h : lst (left - v) = lst left - 1
    · rw [wfT_y h]
      have := wfT_le lst v f (left - v)
      omega
    · rw [wfT_n h]
      omega
def wfL (val fal : Nat → Nat) (lst : Nat → Int) (sum : Nat) : Nat → Nat
  | 0 => sum
  | i + 1 => wfL val fal lst sum i - wfT lst (val (fal i)) (wfL val fal lst sum i / val (fal i)) (wfL val fal lst sum i) * val (fal i)
def wfR (val fal : Nat → Nat) (lst : Nat → Int) (sum : Nat) (row : Nat → Int) : Nat → (Nat → Int)
  | 0 => row
  | i + 1 => va_up (wfR val fal lst sum row i) (fal i) (wfT lst (val (fal i)) (wfL val fal lst sum i / val (fal i)) (wfL val fal lst sum i) : Nat)
theorem wfL_le (val fal : Nat → Nat) (lst : Nat → Int) (sum : Nat) : ∀ i, wfL val fal lst sum i ≤ sum
  | 0 => Nat.le_refl _
  | i + 1 => Nat.le_trans (Nat.sub_le _ _) (wfL_le val fal lst sum i)
/-- GREEDY: what is left, how many, behind i coins -/
def grL (val fal : Nat → Nat) (sum : Nat) : Nat → Nat
  | 0 => sum
  | i + 1 => grL val fal sum i % val (fal i)
def grA (val fal : Nat → Nat) (sum : Nat) : Nat → Nat
  | 0 => 0
  | i + 1 => grA val fal sum i + grL val fal sum i / val (fal i)
def grV (val fal : Nat → Nat) (cnt sum : Nat) : Int := if grL val fal sum cnt = 0 then (grA val fal sum cnt : Int) else -1
theorem grz_0 {val fal : Nat → Nat} {sum i : Nat} (h : grL val fal sum i = 0) : ∀ d, grL val fal sum (i + d) = 0 ∧ grA val fal sum (i + d) = grA val fal sum i
  | 0 => ⟨h, rfl⟩
  | d + 1 => by
    have ih := grz_0 h d
    show grL val fal sum (i + d) % _ = 0 ∧ grA val fal sum (i + d) + grL val fal sum (i + d) / _ = _
    rw [ih.1, ih.2]
    exact ⟨Nat.zero_mod _, by rw [Nat.zero_div]; rfl⟩
theorem nmodI (a b : Nat) : ((a : Nat) : Int) - ((a : Nat) : Int) / ((b : Nat) : Int) * ((b : Nat) : Int) = ((a % b : Nat) : Int) := by
  rw [Int.natCast_emod, Int.emod_def, Int.mul_comm]
theorem gr_ret0 {val fal : Nat → Nat} {cnt sum q : Nat} (hq : q ≤ cnt) (h : grL val fal sum q = 0) : grV val fal cnt sum = ((grA val fal sum q : Nat) : Int) := by
  have h1 := grz_0 h (cnt - q)
  rw [show q + (cnt - q) = cnt by omega] at h1
  unfold grV
  rw [if_pos h1.1, h1.2]
theorem gr_retN {val fal : Nat → Nat} {cnt sum q : Nat} (hq : q = cnt) (h : ¬ grL val fal sum q = 0) : grV val fal cnt sum = -1 := by
  subst hq
  unfold grV
  rw [if_neg h]
theorem gr_le (val fal : Nat → Nat) (sum : Nat) : ∀ i, grL val fal sum i ≤ sum
  | 0 => Nat.le_refl _
  | i + 1 => Nat.le_trans (Nat.mod_le _ _) (gr_le val fal sum i)
theorem grA_le (val fal : Nat → Nat) (sum : Nat) : ∀ i, grA val fal sum i ≤ i * sum
  | 0 => Nat.zero_le _
  | i + 1 => by
    have h1 := grA_le val fal sum i
    have h2 : grL val fal sum i / val (fal i) ≤ sum := Nat.le_trans (Nat.div_le_self _ _) (gr_le val fal sum i)
    show grA val fal sum i + _ ≤ (i + 1) * sum
    rw [Nat.succ_mul]
    omega
theorem grV_rng (val fal : Nat → Nat) (cnt sum : Nat) (hc : cnt ≤ 8) (hs : sum ≤ 2000) : -1 ≤ grV val fal cnt sum ∧ grV val fal cnt sum ≤ 16000 := by
  have h1 := grA_le val fal sum cnt
  have h2 : cnt * sum ≤ 8 * 2000 := Nat.mul_le_mul hc hs
  unfold grV
  split <;> omega
/-- the first s from s0 on, f of them, with P -/
def fo (P : Nat → Bool) : Nat → Nat → Int
  | 0, _ => -1
  | f + 1, s0 => if P s0 then (s0 : Int) else fo P f (s0 + 1)
theorem fo_t {P : Nat → Bool} {f s0 : Nat} (h : P s0 = true) : fo P (f + 1) s0 = s0 := by
  show (if P s0 then (s0 : Int) else _) = _
  rw [h]
  rfl
theorem fo_f {P : Nat → Bool} {f s0 : Nat} (h : P s0 = false) : fo P (f + 1) s0 = fo P f (s0 + 1) := by
  show (if P s0 then (s0 : Int) else _) = _
  rw [h]
  rfl
theorem fo_c {P Q : Nat → Bool} : ∀ (f s0 : Nat), (∀ k, s0 ≤ k → k < s0 + f → P k = Q k) → fo P f s0 = fo Q f s0
  | 0, _, _ => rfl
  | f + 1, s0, h => by
    have h1 := h s0 (Nat.le_refl _) (by omega)
    have ih := fo_c f (s0 + 1) (fun k a b => h k (by omega) (by omega))
    show (if P s0 then (s0 : Int) else fo P f (s0 + 1)) = if Q s0 then (s0 : Int) else fo Q f (s0 + 1)
    rw [h1, ih]
set_option maxHeartbeats 4000000 in
set_option maxRecDepth 100000 in
theorem c_X1_isValue {l : Launch} {G : nG} {N : Nat} {ad : Nat → Nat} {w : Nat → va_E} {sz : Nat} (i cnt : Nat) (val : Nat → Nat) (z : Int) (hN : i + 3 < N) (hc : cnt ≤ 8) (hz : -2147483648 ≤ z ∧ z < 2147483648) (hval : ∀ k, val k ≤ 1000) (f_o : w i = .inr (1, [.int (iI ((cnt : Nat) : Int)), .ref (ad (i + 1)), .ref (ad (i + 2)), .ref (ad (i + 3))])) (f_v : w (i + 1) = aI G 8 (fun q => (val q : Int))) : Met l yX1_isValue wsX1_isValue ({ frames := 0, cells := 0, slots := 0, locals := 0 }) (va_Pc [.ref (ad i), .int (iI z)] (nB G N ad w sz)) (nRd (.int (iI (bI (anyV val z cnt = true))))) 0 0 (fun _ => False) := by
  refine n_ent (cc := cX1_isValue) (maxL := 3) (ret := (some .boolean)) (by decide) rfl (Nat.le_of_ble_eq_true rfl) ?_
  intro p e s m below meth cd hx hb hr hml hlocks hts hown hnm hsz hP hK hI Q hQ ls hl
  have hown : s.vm.findClass RX1 = some m.cls := hown
  have hl : lv_has ls 3 [(0, .ref (ad i)), (1, .int (iI z))] := hl
  refine n_iconst hx hb dX1_isValue_0 ?_
  refine lv_istore_n (lv' := [(2, .int (iI 0)), (0, .ref (ad i)), (1, .int (iI z))]) hx hb dX1_isValue_1 rfl hl (by decide) rfl (fun ls hl => ?_)
  have lp1 : ∀ (fu : Nat), ∀ (q : Nat), ∀ (ls : Array Slot), cnt - q < fu → q ≤ cnt → anyV val z q = false → lv_has ls 3 [(0, .ref (ad i)), (1, .int (iI z)), (2, .int (iI ((q : Nat) : Int)))] → W p l e ({ frames := 0, cells := 0, slots := 0, locals := 0 } : Room) s m ([.ref (ad i), .int (iI z)] : List Value).toArray below meth cd s.heap [] 0 0 Q (F0 m 2 ls []) := by
    intro fu
    induction fu with
    | zero =>
      intro q ls hfu hq hv hl
      exact absurd hfu (Nat.not_lt_zero _)
    | succ fu ih2 =>
      intro q ls hfu hq hv hl
      refine lv_iload_n hx hb dX1_isValue_2 rfl (lv_at hl 2 rfl) ?_
      refine lv_aload_n hx hb dX1_isValue_3 rfl (lv_at hl 0 rfl) ?_
      refine n_get hx hb hts u_X1 hown hK hP (by omega) f_o rfl 0 (by decide) (nT_m wf_X1_9) rfl dX1_isValue_4 ?_
      refine n_icmp_ge (tgt := 28) hx hb dX1_isValue_7 (by decide) (by omega) (by omega) (fun hc7 => ?_) (fun hc7 => ?_)
      · skip
        refine n_iconst hx hb dX1_isValue_28 ?_
        exact n_zretR hQ hx hb hr hlocks (bI_f (fun h => by rw [show cnt = q by omega, hv] at h; cases h)).symm dX1_isValue_29
      · skip
        refine lv_aload_n hx hb dX1_isValue_10 rfl (lv_at hl 0 rfl) ?_
        refine n_get hx hb hts u_X1 hown hK hP (by omega) f_o rfl 1 (by decide) (nT_m wf_X1_15) rfl dX1_isValue_11 ?_
        refine lv_iload_n hx hb dX1_isValue_14 rfl (lv_at hl 2 rfl) ?_
        refine n_iald hx hb hK hP q (by omega) f_v (by omega) (by omega) (by decide) dX1_isValue_15 ?_
        have ho3 := hval q
        refine lv_iload_n hx hb dX1_isValue_16 rfl (lv_at hl 1 rfl) ?_
        refine n_icmp_ne (tgt := 22) hx hb dX1_isValue_17 (by decide) (by omega) (by omega) (fun hc17 => ?_) (fun hc17 => ?_)
        · skip
          refine lv_iinc (v := iI (((q : Nat) : Int) + 1)) (lv' := [(2, .int (iI (((q : Nat) : Int) + 1))), (0, .ref (ad i)), (1, .int (iI z))]) hx hb dX1_isValue_22 hl (k := 2) rfl (by first | exact iI_add _ _ | exact (iI_add _ _).trans (congrArg iI (by omega))) (by decide) rfl (fun ls hl => ?_)
          refine lv_goto (tgt := 2) hx hb dX1_isValue_25 (by decide) ?_
          exact ih2 (q + 1) _ (by omega) (by omega) (anyV_f hv hc17) (by first | exact lv_sub hl [1, 2, 0] rfl | exact lv_cast (lv_sub (l' := [(0, .ref (ad i)), (1, .int (iI z)), (2, .int (iI (((q : Nat) : Int) + 1)))]) hl [1, 2, 0] rfl) (lc_s (lc_s (lc_i (show ((((q : Nat) : Int) + 1) : Int) = (((q + 1) : Nat) : Int) by omega) rfl))))
        · skip
          refine n_iconst hx hb dX1_isValue_20 ?_
          exact n_zretR hQ hx hb hr hlocks (bI_t (anyV_le (anyV_t hc17) (by omega))).symm dX1_isValue_21
  exact lp1 (cnt - 0 + 1) 0 _ (Nat.lt_succ_self _) (by omega) rfl (by first | exact lv_sub hl [1, 2, 0] rfl | exact lv_cast (lv_sub (l' := [(0, .ref (ad i)), (1, .int (iI z)), (2, .int (iI 0))]) hl [1, 2, 0] rfl) (lc_s (lc_s (lc_i (show (0 : Int) = ((0 : Nat) : Int) by omega) rfl))))
set_option maxHeartbeats 4000000 in
set_option maxRecDepth 100000 in
theorem c_X1_rank {l : Launch} {G : nG} {N : Nat} {ad : Nat → Nat} {w : Nat → va_E} {sz : Nat} (i n : Nat) (cnt : Nat) (val fal : Nat → Nat) (hN : i + 3 < N) (hn : n < 8) (hval : ∀ k, val k ≤ 1000) (hfal : ∀ k, k < n → fal k < 8) (f_o : w i = .inr (1, [.int (iI ((cnt : Nat) : Int)), .ref (ad (i + 1)), .ref (ad (i + 2)), .ref (ad (i + 3))])) (f_v : w (i + 1) = aI G 8 (fun q => (val q : Int))) (f_f : w (i + 2) = aI G 8 (fun q => (fal q : Int))) : Met l yX1_rank wsX1_rank ({ frames := 0, cells := 0, slots := 0, locals := 0 }) (va_Pc [.ref (ad i), .int (iI ((n : Nat) : Int))] (nB G N ad w sz)) (nPv G N ad sz (fun u => (∀ j, j ≠ (i + 2) → u j = w j) ∧ (u (i + 2) = aI G 8 (fun k => (insF fal n (insP val fal (val n) n) k : Int))))) 0 0 (nA N ad sz) := by
  refine n_ent (cc := cX1_rank) (maxL := 3) (ret := (none : Option Jvm.ClassFile.FieldType)) (by decide) rfl (Nat.le_of_ble_eq_true rfl) ?_
  intro p e s m below meth cd hx hb hr hml hlocks hts hown hnm hsz hP hK hI Q hQ ls hl
  have hown : s.vm.findClass RX1 = some m.cls := hown
  subst hsz
  have hJ := hI.J s.heap.size
  have hS : va_S (nA N ad s.heap.size) s.heap s.heap [] := va_S.rf
  have hfr : ∀ j, j ≠ (i + 2) → w j = w j := fun _ _ => rfl
  have hl : lv_has ls 3 [(0, .ref (ad i)), (1, .int (iI ((n : Nat) : Int)))] := hl
  refine lv_iload_n hx hb dX1_rank_0 rfl (lv_at hl 1 rfl) ?_
  refine lv_istore_n (lv' := [(2, .int (iI ((n : Nat) : Int))), (0, .ref (ad i)), (1, .int (iI ((n : Nat) : Int)))]) hx hb dX1_rank_1 rfl hl (by decide) rfl (fun ls hl => ?_)
  have lp1 : ∀ (fu : Nat), ∀ (q : Nat), ∀ (w2 : Nat → va_E) (H : Heap) (locs : List Loc), ∀ (ls : Array Slot), q < fu → q ≤ n → insP val fal (val n) q = insP val fal (val n) n → (∀ j, j ≠ (i + 2) → w2 j = w j) → w2 i = .inr (1, [.int (iI ((cnt : Nat) : Int)), .ref (ad (i + 1)), .ref (ad (i + 2)), .ref (ad (i + 3))]) → w2 (i + 1) = aI G 8 (fun q => (val q : Int)) → w2 (i + 2) = aI G 8 (fun k => (insQ fal n q k : Int)) → va_P G.1 vwCl (nL N ad w2) H → va_S (nA N ad s.heap.size) s.heap H locs → lv_has ls 3 [(0, .ref (ad i)), (1, .int (iI ((n : Nat) : Int))), (2, .int (iI ((q : Nat) : Int)))] → W p l e ({ frames := 0, cells := 0, slots := 0, locals := 0 } : Room) s m ([.ref (ad i), .int (iI ((n : Nat) : Int))] : List Value).toArray below meth cd H locs 0 0 Q (F0 m 2 ls []) := by
    intro fu
    induction fu with
    | zero =>
      intro q w2 H locs ls hfu hq hp hfr f_o f_v f_f hP hS hl
      exact absurd hfu (Nat.not_lt_zero _)
    | succ fu ih3 =>
      intro q w2 H locs ls hfu hq hp hfr f_o f_v f_f hP hS hl
      refine lv_iload_n hx hb dX1_rank_2 rfl (lv_at hl 2 rfl) ?_
      refine n_if_le (tgt := 48) hx hb dX1_rank_3 (by decide) (by omega) (fun hc3 => ?_) (fun hc3 => ?_)
      · skip
        refine lv_aload_n hx hb dX1_rank_48 rfl (lv_at hl 0 rfl) ?_
        refine n_get hx hb hts u_X1 hown hK hP (by omega) f_o rfl 2 (by decide) (nT_m wf_X1_19) rfl dX1_rank_49 ?_
        refine lv_iload_n hx hb dX1_rank_52 rfl (lv_at hl 2 rfl) ?_
        refine lv_iload_n hx hb dX1_rank_53 rfl (lv_at hl 1 rfl) ?_
        refine n_iast hx hb hK hJ hP hS q (by omega) f_f (by omega) (by omega) (by decide) dX1_rank_54 (fun w4 H locs f_f hne5 hP hS => ?_)
        have f_o := (hne5 i (by omega)).trans f_o
        have f_v := (hne5 (i + 1) (by omega)).trans f_v
        have hfr : ∀ j, j ≠ (i + 2) → w4 j = w j := fun j a0 => (hne5 j (by omega)).trans (hfr j a0)
        refine n_vretP hQ hx hb hr hlocks hP hS dX1_rank_55 ?_
        refine ⟨hfr, f_f.trans (congrArg (aI G 8) ?_)⟩
        have e9 : insP val fal (val n) n = q := by
          rw [← hp]
          cases q with
          | zero => rfl
          | succ q1 =>
            exact insP_ge (by omega)
        rw [e9]
        exact insQ_F fal n q
      · skip
        refine lv_aload_n hx hb dX1_rank_6 rfl (lv_at hl 0 rfl) ?_
        refine n_get hx hb hts u_X1 hown hK hP (by omega) f_o rfl 1 (by decide) (nT_m wf_X1_15) rfl dX1_rank_7 ?_
        refine lv_aload_n hx hb dX1_rank_10 rfl (lv_at hl 0 rfl) ?_
        refine n_get hx hb hts u_X1 hown hK hP (by omega) f_o rfl 2 (by decide) (nT_m wf_X1_19) rfl dX1_rank_11 ?_
        refine lv_iload_n hx hb dX1_rank_14 rfl (lv_at hl 2 rfl) ?_
        refine n_iconst hx hb dX1_rank_15 ?_
        refine n_isub hx hb dX1_rank_16 ?_
        refine n_iald hx hb hK hP (q - 1) (by omega) f_f (by omega) (by omega) (by decide) dX1_rank_17 ?_
        have hf8 : insQ fal n q (q - 1) < 8 := by rw [insQ_lo fal (by omega)]; exact hfal _ (by omega)
        refine n_iald hx hb hK hP (insQ fal n q (q - 1)) (by omega) f_v (by omega) (by omega) (by decide) dX1_rank_18 ?_
        have ho6 := hval (insQ fal n q (q - 1))
        refine lv_aload_n hx hb dX1_rank_19 rfl (lv_at hl 0 rfl) ?_
        refine n_get hx hb hts u_X1 hown hK hP (by omega) f_o rfl 1 (by decide) (nT_m wf_X1_15) rfl dX1_rank_20 ?_
        refine lv_iload_n hx hb dX1_rank_23 rfl (lv_at hl 1 rfl) ?_
        refine n_iald hx hb hK hP n (by omega) f_v (by omega) (by omega) (by decide) dX1_rank_24 ?_
        have ho7 := hval n
        refine n_icmp_ge (tgt := 48) hx hb dX1_rank_25 (by decide) (by omega) (by omega) (fun hc25 => ?_) (fun hc25 => ?_)
        · skip
          refine lv_aload_n hx hb dX1_rank_48 rfl (lv_at hl 0 rfl) ?_
          refine n_get hx hb hts u_X1 hown hK hP (by omega) f_o rfl 2 (by decide) (nT_m wf_X1_19) rfl dX1_rank_49 ?_
          refine lv_iload_n hx hb dX1_rank_52 rfl (lv_at hl 2 rfl) ?_
          refine lv_iload_n hx hb dX1_rank_53 rfl (lv_at hl 1 rfl) ?_
          refine n_iast hx hb hK hJ hP hS q (by omega) f_f (by omega) (by omega) (by decide) dX1_rank_54 (fun w8 H locs f_f hne9 hP hS => ?_)
          have f_o := (hne9 i (by omega)).trans f_o
          have f_v := (hne9 (i + 1) (by omega)).trans f_v
          have hfr : ∀ j, j ≠ (i + 2) → w8 j = w j := fun j a0 => (hne9 j (by omega)).trans (hfr j a0)
          refine n_vretP hQ hx hb hr hlocks hP hS dX1_rank_55 ?_
          refine ⟨hfr, f_f.trans (congrArg (aI G 8) ?_)⟩
          have e9 : insP val fal (val n) n = q := by
            rw [← hp]
            cases q with
            | zero => rfl
            | succ q1 =>
              exact insP_ge (by rw [show q1 + 1 - 1 = q1 by omega, insQ_lo fal (by omega)] at hc25; omega)
          rw [e9]
          exact insQ_F fal n q
        · skip
          refine lv_aload_n hx hb dX1_rank_28 rfl (lv_at hl 0 rfl) ?_
          refine n_get hx hb hts u_X1 hown hK hP (by omega) f_o rfl 2 (by decide) (nT_m wf_X1_19) rfl dX1_rank_29 ?_
          refine lv_iload_n hx hb dX1_rank_32 rfl (lv_at hl 2 rfl) ?_
          refine lv_aload_n hx hb dX1_rank_33 rfl (lv_at hl 0 rfl) ?_
          refine n_get hx hb hts u_X1 hown hK hP (by omega) f_o rfl 2 (by decide) (nT_m wf_X1_19) rfl dX1_rank_34 ?_
          refine lv_iload_n hx hb dX1_rank_37 rfl (lv_at hl 2 rfl) ?_
          refine n_iconst hx hb dX1_rank_38 ?_
          refine n_isub hx hb dX1_rank_39 ?_
          refine n_iald hx hb hK hP (q - 1) (by omega) f_f (by omega) (by omega) (by decide) dX1_rank_40 ?_
          refine n_iast hx hb hK hJ hP hS q (by omega) f_f (by omega) (by omega) (by decide) dX1_rank_41 (fun w10 H locs f_f hne11 hP hS => ?_)
          have f_o := (hne11 i (by omega)).trans f_o
          have f_v := (hne11 (i + 1) (by omega)).trans f_v
          have hfr : ∀ j, j ≠ (i + 2) → w10 j = w j := fun j a0 => (hne11 j (by omega)).trans (hfr j a0)
          refine lv_iinc (v := iI (((q : Nat) : Int) - 1)) (lv' := [(2, .int (iI (((q : Nat) : Int) - 1))), (0, .ref (ad i)), (1, .int (iI ((n : Nat) : Int)))]) hx hb dX1_rank_42 hl (k := 2) rfl (by first | exact iI_add _ _ | exact (iI_add _ _).trans (congrArg iI (by omega))) (by decide) rfl (fun ls hl => ?_)
          refine lv_goto (tgt := 2) hx hb dX1_rank_45 (by decide) ?_
          obtain ⟨q1, rfl⟩ : ∃ q1, q = q1 + 1 := ⟨q - 1, by omega⟩
          rw [insQ_lo fal (by omega)] at hc25
          have hlt : val (fal q1) < val n := by rw [show q1 + 1 - 1 = q1 by omega] at hc25; omega
          exact ih3 q1 _ _ _ _ (by omega) (by omega) ((insP_lt hlt).symm.trans hp) hfr f_o f_v (f_f.trans (congrArg (aI G 8) (by rw [show q1 + 1 - 1 = q1 by omega]; exact insQ_s fal (by omega)))) hP hS (by first | exact lv_sub hl [1, 2, 0] rfl | exact lv_cast (lv_sub (l' := [(0, .ref (ad i)), (1, .int (iI ((n : Nat) : Int))), (2, .int (iI ((((q1 + 1) : Nat) : Int) - 1)))]) hl [1, 2, 0] rfl) (lc_s (lc_s (lc_i (show (((((q1 + 1) : Nat) : Int) - 1) : Int) = ((q1 : Nat) : Int) by omega) rfl))))
  exact lp1 (n + 1) n _ _ _ _ (Nat.lt_succ_self _) (by omega) rfl hfr f_o f_v (f_f.trans (by rw [insQ_0])) hP hS (lv_sub hl [1, 2, 0] rfl)
set_option maxHeartbeats 4000000 in
set_option maxRecDepth 100000 in
theorem c_X1_improve {l : Launch} {G : nG} {N : Nat} {ad : Nat → Nat} {w : Nat → va_E} {sz : Nat} (i v : Nat) (cnt : Nat) (lst : Nat → Int) (hN : i + 3 < N) (hv : 1 ≤ v ∧ v ≤ 1000) (hlst : ∀ k, k < 2001 → -1 ≤ lst k ∧ lst k ≤ k) (f_o : w i = .inr (1, [.int (iI ((cnt : Nat) : Int)), .ref (ad (i + 1)), .ref (ad (i + 2)), .ref (ad (i + 3))])) (f_l : w (i + 3) = aI G 2001 lst) : Met l yX1_improve wsX1_improve ({ frames := 0, cells := 0, slots := 0, locals := 0 }) (va_Pc [.ref (ad i), .int (iI ((v : Nat) : Int))] (nB G N ad w sz)) (nPv G N ad sz (fun u => (∀ j, j ≠ (i + 3) → u j = w j) ∧ (u (i + 3) = aI G 2001 (imp lst v (2001 - v))))) 0 0 (nA N ad sz) := by
  refine n_ent (cc := cX1_improve) (maxL := 4) (ret := (none : Option Jvm.ClassFile.FieldType)) (by decide) rfl (Nat.le_of_ble_eq_true rfl) ?_
  intro p e s m below meth cd hx hb hr hml hlocks hts hown hnm hsz hP hK hI Q hQ ls hl
  have hown : s.vm.findClass RX1 = some m.cls := hown
  subst hsz
  have hJ := hI.J s.heap.size
  have hS : va_S (nA N ad s.heap.size) s.heap s.heap [] := va_S.rf
  have hfr : ∀ j, j ≠ (i + 3) → w j = w j := fun _ _ => rfl
  have hl : lv_has ls 4 [(0, .ref (ad i)), (1, .int (iI ((v : Nat) : Int)))] := hl
  refine lv_iload_n hx hb dX1_improve_0 rfl (lv_at hl 1 rfl) ?_
  refine lv_istore_n (lv' := [(2, .int (iI ((v : Nat) : Int))), (0, .ref (ad i)), (1, .int (iI ((v : Nat) : Int)))]) hx hb dX1_improve_1 rfl hl (by decide) rfl (fun ls hl => ?_)
  have lp1 : ∀ (fu : Nat), ∀ (t : Nat), ∀ (w2 : Nat → va_E) (H : Heap) (locs : List Loc), ∀ (ls : Array Slot), 2001 - (v + t) < fu → v + t ≤ 2001 → (∀ j, j ≠ (i + 3) → w2 j = w j) → w2 i = .inr (1, [.int (iI ((cnt : Nat) : Int)), .ref (ad (i + 1)), .ref (ad (i + 2)), .ref (ad (i + 3))]) → w2 (i + 3) = aI G 2001 (imp lst v t) → va_P G.1 vwCl (nL N ad w2) H → va_S (nA N ad s.heap.size) s.heap H locs → lv_has ls 4 [(0, .ref (ad i)), (1, .int (iI ((v : Nat) : Int))), (2, .int (iI ((v + t : Nat) : Int)))] → W p l e ({ frames := 0, cells := 0, slots := 0, locals := 0 } : Room) s m ([.ref (ad i), .int (iI ((v : Nat) : Int))] : List Value).toArray below meth cd H locs 0 0 Q (F0 m 2 ls []) := by
    intro fu
    induction fu with
    | zero =>
      intro t w2 H locs ls hfu ht hfr f_o f_l hP hS hl
      exact absurd hfu (Nat.not_lt_zero _)
    | succ fu ih3 =>
      intro t w2 H locs ls hfu ht hfr f_o f_l hP hS hl
      have hrg := imp_rng hv.1 hlst t ht
      have e8 : v + t - v = t := by omega
      refine lv_iload_n hx hb dX1_improve_2 rfl (lv_at hl 2 rfl) ?_
      refine n_sipush hx hb dX1_improve_3 (by decide) ?_
      refine n_icmp_gt (tgt := 60) hx hb dX1_improve_6 (by decide) (by omega) (by omega) (fun hc6 => ?_) (fun hc6 => ?_)
      · skip
        refine n_vretP hQ hx hb hr hlocks hP hS dX1_improve_60 ?_
        refine ⟨hfr, f_l.trans (congrArg (fun x => aI G 2001 (imp lst v x)) (by omega))⟩
      · skip
        refine lv_aload_n hx hb dX1_improve_9 rfl (lv_at hl 0 rfl) ?_
        refine n_get hx hb hts u_X1 hown hK hP (by omega) f_o rfl 3 (by decide) (nT_m wf_X1_22) rfl dX1_improve_10 ?_
        refine lv_iload_n hx hb dX1_improve_13 rfl (lv_at hl 2 rfl) ?_
        refine lv_iload_n hx hb dX1_improve_14 rfl (lv_at hl 1 rfl) ?_
        refine n_isub hx hb dX1_improve_15 ?_
        refine n_iald hx hb hK hP (v + t - v) (by omega) f_l (by omega) (by omega) (by decide) dX1_improve_16 ?_
        have ho4 := hrg (v + t - v) (by omega)
        refine lv_istore_n (lv' := [(3, .int (iI ((imp lst v t) (v + t - v)))), (0, .ref (ad i)), (1, .int (iI ((v : Nat) : Int))), (2, .int (iI ((v + t : Nat) : Int)))]) hx hb dX1_improve_17 rfl hl (by decide) rfl (fun ls hl => ?_)
        refine lv_iload_n hx hb dX1_improve_18 rfl (lv_at hl 0 rfl) ?_
        refine n_iconst hx hb dX1_improve_19 ?_
        refine n_icmp_eq (tgt := 54) hx hb dX1_improve_20 (by decide) (by omega) (by omega) (fun hc20 => ?_) (fun hc20 => ?_)
        · skip
          refine lv_iinc (v := iI (((v + t : Nat) : Int) + 1)) (lv' := [(2, .int (iI (((v + t : Nat) : Int) + 1))), (3, .int (iI ((imp lst v t) (v + t - v)))), (0, .ref (ad i)), (1, .int (iI ((v : Nat) : Int)))]) hx hb dX1_improve_54 hl (k := 3) rfl (by first | exact iI_add _ _ | exact (iI_add _ _).trans (congrArg iI (by omega))) (by decide) rfl (fun ls hl => ?_)
          refine lv_goto (tgt := 2) hx hb dX1_improve_57 (by decide) ?_
          exact ih3 (t + 1) _ _ _ _ (by omega) (by omega) hfr f_o (f_l.trans (congrArg (aI G 2001) (imp_n (by rw [e8] at *; omega)).symm)) hP hS (by first | exact lv_sub hl [2, 3, 0] rfl | exact lv_cast (lv_sub (l' := [(0, .ref (ad i)), (1, .int (iI ((v : Nat) : Int))), (2, .int (iI (((v + t : Nat) : Int) + 1)))]) hl [2, 3, 0] rfl) (lc_s (lc_s (lc_i (show ((((v + t : Nat) : Int) + 1) : Int) = ((v + (t + 1) : Nat) : Int) by omega) rfl))))
        · skip
          refine lv_aload_n hx hb dX1_improve_23 rfl (lv_at hl 1 rfl) ?_
          refine n_get hx hb hts u_X1 hown hK hP (by omega) f_o rfl 3 (by decide) (nT_m wf_X1_22) rfl dX1_improve_24 ?_
          refine lv_iload_n hx hb dX1_improve_27 rfl (lv_at hl 3 rfl) ?_
          refine n_iald hx hb hK hP (v + t) (by omega) f_l (by omega) (by omega) (by decide) dX1_improve_28 ?_
          have ho5 := hrg (v + t) (by omega)
          refine n_iconst hx hb dX1_improve_29 ?_
          refine n_icmp_eq (tgt := 45) hx hb dX1_improve_30 (by decide) (by omega) (by omega) (fun hc30 => ?_) (fun hc30 => ?_)
          · skip
            refine lv_aload_n hx hb dX1_improve_45 rfl (lv_at hl 1 rfl) ?_
            refine n_get hx hb hts u_X1 hown hK hP (by omega) f_o rfl 3 (by decide) (nT_m wf_X1_22) rfl dX1_improve_46 ?_
            refine lv_iload_n hx hb dX1_improve_49 rfl (lv_at hl 3 rfl) ?_
            refine lv_iload_n hx hb dX1_improve_50 rfl (lv_at hl 0 rfl) ?_
            refine n_iconst hx hb dX1_improve_51 ?_
            refine n_iadd hx hb dX1_improve_52 ?_
            refine n_iast hx hb hK hJ hP hS (v + t) (by omega) f_l (by omega) (by omega) (by decide) dX1_improve_53 (fun w6 H locs f_l hne7 hP hS => ?_)
            have f_o := (hne7 i (by omega)).trans f_o
            have hfr : ∀ j, j ≠ (i + 3) → w6 j = w j := fun j a0 => (hne7 j (by omega)).trans (hfr j a0)
            refine lv_iinc (v := iI (((v + t : Nat) : Int) + 1)) (lv' := [(2, .int (iI (((v + t : Nat) : Int) + 1))), (3, .int (iI ((imp lst v t) (v + t - v)))), (0, .ref (ad i)), (1, .int (iI ((v : Nat) : Int)))]) hx hb dX1_improve_54 hl (k := 3) rfl (by first | exact iI_add _ _ | exact (iI_add _ _).trans (congrArg iI (by omega))) (by decide) rfl (fun ls hl => ?_)
            refine lv_goto (tgt := 2) hx hb dX1_improve_57 (by decide) ?_
            exact ih3 (t + 1) _ _ _ _ (by omega) (by omega) hfr f_o (f_l.trans (congrArg (aI G 2001) (by rw [e8]; exact (imp_y (by rw [e8] at *; omega)).symm))) hP hS (by first | exact lv_sub hl [2, 3, 0] rfl | exact lv_cast (lv_sub (l' := [(0, .ref (ad i)), (1, .int (iI ((v : Nat) : Int))), (2, .int (iI (((v + t : Nat) : Int) + 1)))]) hl [2, 3, 0] rfl) (lc_s (lc_s (lc_i (show ((((v + t : Nat) : Int) + 1) : Int) = ((v + (t + 1) : Nat) : Int) by omega) rfl))))
          · skip
            refine lv_iload_n hx hb dX1_improve_33 rfl (lv_at hl 0 rfl) ?_
            refine n_iconst hx hb dX1_improve_34 ?_
            refine n_iadd hx hb dX1_improve_35 ?_
            refine lv_aload_n hx hb dX1_improve_36 rfl (lv_at hl 1 rfl) ?_
            refine n_get hx hb hts u_X1 hown hK hP (by omega) f_o rfl 3 (by decide) (nT_m wf_X1_22) rfl dX1_improve_37 ?_
            refine lv_iload_n hx hb dX1_improve_40 rfl (lv_at hl 3 rfl) ?_
            refine n_iald hx hb hK hP (v + t) (by omega) f_l (by omega) (by omega) (by decide) dX1_improve_41 ?_
            have ho8 := hrg (v + t) (by omega)
            refine n_icmp_ge (tgt := 54) hx hb dX1_improve_42 (by decide) (by omega) (by omega) (fun hc42 => ?_) (fun hc42 => ?_)
            · skip
              refine lv_iinc (v := iI (((v + t : Nat) : Int) + 1)) (lv' := [(2, .int (iI (((v + t : Nat) : Int) + 1))), (3, .int (iI ((imp lst v t) (v + t - v)))), (0, .ref (ad i)), (1, .int (iI ((v : Nat) : Int)))]) hx hb dX1_improve_54 hl (k := 3) rfl (by first | exact iI_add _ _ | exact (iI_add _ _).trans (congrArg iI (by omega))) (by decide) rfl (fun ls hl => ?_)
              refine lv_goto (tgt := 2) hx hb dX1_improve_57 (by decide) ?_
              exact ih3 (t + 1) _ _ _ _ (by omega) (by omega) hfr f_o (f_l.trans (congrArg (aI G 2001) (imp_n (by rw [e8] at *; omega)).symm)) hP hS (by first | exact lv_sub hl [2, 3, 0] rfl | exact lv_cast (lv_sub (l' := [(0, .ref (ad i)), (1, .int (iI ((v : Nat) : Int))), (2, .int (iI (((v + t : Nat) : Int) + 1)))]) hl [2, 3, 0] rfl) (lc_s (lc_s (lc_i (show ((((v + t : Nat) : Int) + 1) : Int) = ((v + (t + 1) : Nat) : Int) by omega) rfl))))
            · skip
              refine lv_aload_n hx hb dX1_improve_45 rfl (lv_at hl 1 rfl) ?_
              refine n_get hx hb hts u_X1 hown hK hP (by omega) f_o rfl 3 (by decide) (nT_m wf_X1_22) rfl dX1_improve_46 ?_
              refine lv_iload_n hx hb dX1_improve_49 rfl (lv_at hl 3 rfl) ?_
              refine lv_iload_n hx hb dX1_improve_50 rfl (lv_at hl 0 rfl) ?_
              refine n_iconst hx hb dX1_improve_51 ?_
              refine n_iadd hx hb dX1_improve_52 ?_
              refine n_iast hx hb hK hJ hP hS (v + t) (by omega) f_l (by omega) (by omega) (by decide) dX1_improve_53 (fun w9 H locs f_l hne10 hP hS => ?_)
              have f_o := (hne10 i (by omega)).trans f_o
              have hfr : ∀ j, j ≠ (i + 3) → w9 j = w j := fun j a0 => (hne10 j (by omega)).trans (hfr j a0)
              refine lv_iinc (v := iI (((v + t : Nat) : Int) + 1)) (lv' := [(2, .int (iI (((v + t : Nat) : Int) + 1))), (3, .int (iI ((imp lst v t) (v + t - v)))), (0, .ref (ad i)), (1, .int (iI ((v : Nat) : Int)))]) hx hb dX1_improve_54 hl (k := 3) rfl (by first | exact iI_add _ _ | exact (iI_add _ _).trans (congrArg iI (by omega))) (by decide) rfl (fun ls hl => ?_)
              refine lv_goto (tgt := 2) hx hb dX1_improve_57 (by decide) ?_
              exact ih3 (t + 1) _ _ _ _ (by omega) (by omega) hfr f_o (f_l.trans (congrArg (aI G 2001) (by rw [e8]; exact (imp_y (by rw [e8] at *; omega)).symm))) hP hS (by first | exact lv_sub hl [2, 3, 0] rfl | exact lv_cast (lv_sub (l' := [(0, .ref (ad i)), (1, .int (iI ((v : Nat) : Int))), (2, .int (iI (((v + t : Nat) : Int) + 1)))]) hl [2, 3, 0] rfl) (lc_s (lc_s (lc_i (show ((((v + t : Nat) : Int) + 1) : Int) = ((v + (t + 1) : Nat) : Int) by omega) rfl))))
  exact lp1 (2001 - (v + 0) + 1) 0 _ _ _ _ (Nat.lt_succ_self _) (by omega) hfr f_o f_l hP hS (by first | exact lv_sub hl [1, 2, 0] rfl | exact lv_cast (lv_sub (l' := [(0, .ref (ad i)), (1, .int (iI ((v : Nat) : Int))), (2, .int (iI ((v : Nat) : Int)))]) hl [1, 2, 0] rfl) (lc_s (lc_s (lc_i (show (((v : Nat) : Int) : Int) = ((v + 0 : Nat) : Int) by omega) rfl))))
set_option maxHeartbeats 4000000 in
set_option maxRecDepth 100000 in
theorem c_X1_hasFewest {l : Launch} {G : nG} {N : Nat} {ad : Nat → Nat} {w : Nat → va_E} {sz : Nat} (i cnt : Nat) (z : Int) (lst : Nat → Int) (hN : i + 3 < N) (hz : -2147483648 ≤ z ∧ z < 2147483648) (hlst : ∀ k, k < 2001 → -1 ≤ lst k ∧ lst k ≤ k) (f_o : w i = .inr (1, [.int (iI ((cnt : Nat) : Int)), .ref (ad (i + 1)), .ref (ad (i + 2)), .ref (ad (i + 3))])) (f_l : w (i + 3) = aI G 2001 lst) : Met l yX1_hasFewest wsX1_hasFewest ({ frames := 2, cells := 0, slots := 0, locals := 42 }) (va_Pc [.ref (ad i), .int (iI z)] (nB G N ad w sz)) (nRd (.int (iI (bI ((0 ≤ z ∧ z ≤ 2000) ∧ ¬ lst z.toNat = -1))))) 0 0 (fun _ => False) := by
  refine n_ent (cc := cX1_hasFewest) (maxL := 2) (ret := (some .boolean)) (by decide) rfl (Nat.le_of_ble_eq_true rfl) ?_
  intro p e s m below meth cd hx hb hr hml hlocks hts hown hnm hsz hP hK hI Q hQ ls hl
  have hown : s.vm.findClass RX1 = some m.cls := hown
  have hl : lv_has ls 2 [(0, .ref (ad i)), (1, .int (iI z))] := hl
  refine lv_iload_n hx hb dX1_hasFewest_0 rfl (lv_at hl 1 rfl) ?_
  refine n_rdF (va_runSN (As := [.int (iI z)]) (rest := []) ⟨hx, hb, hml, hown, hts⟩ (c_X6_isSum z (by omega)) ⟨va_cnB 1 hts (nT_N wc_X6_isSum) rfl rfl rfl (hK.2 _ (List.mem_of_getElem? (i := 7) rfl)) (hts _ (nT_m wn_X6)) (by decide +kernel) ⟨Nat.le_of_ble_eq_true rfl, Nat.le_of_ble_eq_true rfl⟩, hts _ (nT_m wt_X6_isSum), trivial⟩ preEq rfl rfl hl.1 rfl (lv_room (Nat.le_of_ble_eq_true rfl)) dX1_hasFewest_1 ⟨Nat.zero_le _, Nat.zero_le _⟩) ?_
  refine n_if_eqB (tgt := 21) hx hb dX1_hasFewest_4 (by decide) (fun hc4 => ?_) (fun hc4 => ?_)
  · skip
    refine n_iconst hx hb dX1_hasFewest_21 ?_
    exact n_zretR hQ hx hb hr hlocks (by unfold bI; split <;> omega) dX1_hasFewest_22
  · skip
    refine lv_aload_n hx hb dX1_hasFewest_7 rfl (lv_at hl 0 rfl) ?_
    refine n_get hx hb hts u_X1 hown hK hP (by omega) f_o rfl 3 (by decide) (nT_m wf_X1_22) rfl dX1_hasFewest_8 ?_
    refine lv_iload_n hx hb dX1_hasFewest_11 rfl (lv_at hl 1 rfl) ?_
    refine n_iald hx hb hK hP z.toNat (by omega) f_l (by omega) (by omega) (by decide) dX1_hasFewest_12 ?_
    have ho1 := hlst z.toNat (by omega)
    refine n_iconst hx hb dX1_hasFewest_13 ?_
    refine n_icmp_eq (tgt := 21) hx hb dX1_hasFewest_14 (by decide) (by omega) (by omega) (fun hc14 => ?_) (fun hc14 => ?_)
    · skip
      refine n_iconst hx hb dX1_hasFewest_21 ?_
      exact n_zretR hQ hx hb hr hlocks (by unfold bI; split <;> omega) dX1_hasFewest_22
    · skip
      refine n_iconst hx hb dX1_hasFewest_17 ?_
      refine lv_goto (tgt := 22) hx hb dX1_hasFewest_18 (by decide) ?_
      exact n_zretR hQ hx hb hr hlocks (by unfold bI; split <;> omega) dX1_hasFewest_22
set_option maxHeartbeats 4000000 in
set_option maxRecDepth 100000 in
theorem c_X1_countGreedily {l : Launch} {G : nG} {N : Nat} {ad : Nat → Nat} {w : Nat → va_E} {sz : Nat} (i cnt : Nat) (val fal : Nat → Nat) (sum : Nat) (hN : i + 3 < N) (hc : cnt ≤ 8) (hval : ∀ k, val k ≤ 1000) (hval1 : ∀ k, k < cnt → 1 ≤ val k) (hfal : ∀ k, k < cnt → fal k < cnt) (hs : sum ≤ 2000) (f_o : w i = .inr (1, [.int (iI ((cnt : Nat) : Int)), .ref (ad (i + 1)), .ref (ad (i + 2)), .ref (ad (i + 3))])) (f_v : w (i + 1) = aI G 8 (fun q => (val q : Int))) (f_f : w (i + 2) = aI G 8 (fun q => (fal q : Int))) : Met l yX1_countGreedily wsX1_countGreedily ({ frames := 1, cells := 0, slots := 0, locals := 21 }) (va_Pc [.ref (ad i), .int (iI ((sum : Nat) : Int))] (nB G N ad w sz)) (nRd (.int (iI (grV val fal cnt sum)))) 0 0 (fun _ => False) := by
  refine n_ent (cc := cX1_countGreedily) (maxL := 7) (ret := (some .int)) (by decide) rfl (Nat.le_of_ble_eq_true rfl) ?_
  intro p e s m below meth cd hx hb hr hml hlocks hts hown hnm hsz hP hK hI Q hQ ls hl
  have hown : s.vm.findClass RX1 = some m.cls := hown
  have hl : lv_has ls 7 [(0, .ref (ad i)), (1, .int (iI ((sum : Nat) : Int)))] := hl
  refine lv_iload_n hx hb dX1_countGreedily_0 rfl (lv_at hl 1 rfl) ?_
  refine lv_istore_n (lv' := [(2, .int (iI ((sum : Nat) : Int))), (0, .ref (ad i)), (1, .int (iI ((sum : Nat) : Int)))]) hx hb dX1_countGreedily_1 rfl hl (by decide) rfl (fun ls hl => ?_)
  refine n_iconst hx hb dX1_countGreedily_2 ?_
  refine lv_istore_n (lv' := [(3, .int (iI 0)), (2, .int (iI ((sum : Nat) : Int))), (0, .ref (ad i)), (1, .int (iI ((sum : Nat) : Int)))]) hx hb dX1_countGreedily_3 rfl hl (by decide) rfl (fun ls hl => ?_)
  refine n_iconst hx hb dX1_countGreedily_4 ?_
  refine lv_istore (lv' := [(4, .int (iI 0)), (3, .int (iI 0)), (2, .int (iI ((sum : Nat) : Int))), (0, .ref (ad i)), (1, .int (iI ((sum : Nat) : Int)))]) hx hb dX1_countGreedily_5 hl (by decide) rfl (fun ls hl => ?_)
  have lp1 : ∀ (fu : Nat), ∀ (q : Nat), ∀ (ls : Array Slot), cnt - q < fu → q ≤ cnt → lv_has ls 7 [(0, .ref (ad i)), (1, .int (iI ((sum : Nat) : Int))), (2, .int (iI ((grL val fal sum q : Nat) : Int))), (3, .int (iI ((grA val fal sum q : Nat) : Int))), (4, .int (iI ((q : Nat) : Int)))] → W p l e ({ frames := 1, cells := 0, slots := 0, locals := 21 } : Room) s m ([.ref (ad i), .int (iI ((sum : Nat) : Int))] : List Value).toArray below meth cd s.heap [] 0 0 Q (F0 m 7 ls []) := by
    intro fu
    induction fu with
    | zero =>
      intro q ls hfu hq hl
      exact absurd hfu (Nat.not_lt_zero _)
    | succ fu ih2 =>
      intro q ls hfu hq hl
      have hle := gr_le val fal sum q
      have hAl := grA_le val fal sum q
      have hAm : q * sum ≤ 8 * sum := Nat.mul_le_mul_right sum (by omega)
      refine lv_iload hx hb dX1_countGreedily_7 (lv_at hl 4 rfl) ?_
      refine lv_aload_n hx hb dX1_countGreedily_9 rfl (lv_at hl 0 rfl) ?_
      refine n_get hx hb hts u_X1 hown hK hP (by omega) f_o rfl 0 (by decide) (nT_m wf_X1_9) rfl dX1_countGreedily_10 ?_
      refine n_icmp_ge (tgt := 61) hx hb dX1_countGreedily_13 (by decide) (by omega) (by omega) (fun hc13 => ?_) (fun hc13 => ?_)
      · skip
        refine lv_iload_n hx hb dX1_countGreedily_61 rfl (lv_at hl 2 rfl) ?_
        refine n_if_ne (tgt := 69) hx hb dX1_countGreedily_62 (by decide) (by omega) (fun hc62 => ?_) (fun hc62 => ?_)
        · skip
          refine n_iconst hx hb dX1_countGreedily_69 ?_
          exact n_iretR hQ hx hb hr hlocks (gr_retN (q := q) (by omega) (by omega)).symm dX1_countGreedily_70
        · skip
          refine lv_iload_n hx hb dX1_countGreedily_65 rfl (lv_at hl 3 rfl) ?_
          refine lv_goto (tgt := 70) hx hb dX1_countGreedily_66 (by decide) ?_
          exact n_iretR hQ hx hb hr hlocks (gr_ret0 hq (by omega)).symm dX1_countGreedily_70
      · skip
        refine lv_iload_n hx hb dX1_countGreedily_16 rfl (lv_at hl 2 rfl) ?_
        refine n_if_le (tgt := 61) hx hb dX1_countGreedily_17 (by decide) (by omega) (fun hc17 => ?_) (fun hc17 => ?_)
        · skip
          refine lv_iload_n hx hb dX1_countGreedily_61 rfl (lv_at hl 2 rfl) ?_
          refine n_if_ne (tgt := 69) hx hb dX1_countGreedily_62 (by decide) (by omega) (fun hc62 => ?_) (fun hc62 => ?_)
          · skip
            refine n_iconst hx hb dX1_countGreedily_69 ?_
            exact n_iretR hQ hx hb hr hlocks (by omega) dX1_countGreedily_70
          · skip
            refine lv_iload_n hx hb dX1_countGreedily_65 rfl (lv_at hl 3 rfl) ?_
            refine lv_goto (tgt := 70) hx hb dX1_countGreedily_66 (by decide) ?_
            exact n_iretR hQ hx hb hr hlocks (gr_ret0 hq (by omega)).symm dX1_countGreedily_70
        · skip
          refine lv_aload_n hx hb dX1_countGreedily_20 rfl (lv_at hl 0 rfl) ?_
          refine n_get hx hb hts u_X1 hown hK hP (by omega) f_o rfl 1 (by decide) (nT_m wf_X1_15) rfl dX1_countGreedily_21 ?_
          refine lv_aload_n hx hb dX1_countGreedily_24 rfl (lv_at hl 0 rfl) ?_
          refine n_get hx hb hts u_X1 hown hK hP (by omega) f_o rfl 2 (by decide) (nT_m wf_X1_19) rfl dX1_countGreedily_25 ?_
          refine lv_iload hx hb dX1_countGreedily_28 (lv_at hl 4 rfl) ?_
          refine n_iald hx hb hK hP q (by omega) f_f (by omega) (by omega) (by decide) dX1_countGreedily_30 ?_
          have hf8 := hfal q (by omega)
          have hv1 := hval1 (fal q) hf8
          refine n_iald hx hb hK hP (fal q) (by omega) f_v (by omega) (by omega) (by decide) dX1_countGreedily_31 ?_
          have ho3 := hval (fal q)
          refine lv_istore (lv' := [(5, .int (iI (val (fal q) : Int))), (0, .ref (ad i)), (1, .int (iI ((sum : Nat) : Int))), (2, .int (iI ((grL val fal sum q : Nat) : Int))), (3, .int (iI ((grA val fal sum q : Nat) : Int))), (4, .int (iI ((q : Nat) : Int)))]) hx hb dX1_countGreedily_32 hl (by decide) rfl (fun ls hl => ?_)
          refine lv_iload_n hx hb dX1_countGreedily_34 rfl (lv_at hl 3 rfl) ?_
          refine lv_iload hx hb dX1_countGreedily_35 (lv_at hl 0 rfl) ?_
          refine n_rdF (v := .int (iI (((grL val fal sum q) / (val (fal q)) : Nat) : Int))) (va_runSN (As := [.int (iI ((grL val fal sum q : Nat) : Int)), .int (iI (val (fal q) : Int))]) (rest := []) ⟨hx, hb, hml, hown, hts⟩ (c_X6_wholeTimes ((grL val fal sum q : Nat) : Int) (val (fal q) : Int) (by omega) (by omega)) ⟨va_cnB 2 hts (nT_N wc_X6_wholeTimes) rfl rfl rfl (hK.2 _ (List.mem_of_getElem? (i := 8) rfl)) (hts _ (nT_m wn_X6)) (by decide +kernel) ⟨Nat.le_of_ble_eq_true rfl, Nat.le_of_ble_eq_true rfl⟩, hts _ (nT_m wt_X6_wholeTimes), trivial⟩ preEq rfl rfl hl.1 rfl (lv_room (Nat.le_of_ble_eq_true rfl)) dX1_countGreedily_37 ⟨Nat.zero_le _, Nat.zero_le _⟩) ?_
          refine lv_istore (lv' := [(6, .int (iI (((grL val fal sum q) / (val (fal q)) : Nat) : Int))), (5, .int (iI (val (fal q) : Int))), (0, .ref (ad i)), (1, .int (iI ((sum : Nat) : Int))), (2, .int (iI ((grL val fal sum q : Nat) : Int))), (3, .int (iI ((grA val fal sum q : Nat) : Int))), (4, .int (iI ((q : Nat) : Int)))]) hx hb dX1_countGreedily_40 hl (by decide) rfl (fun ls hl => ?_)
          refine lv_iload_n hx hb dX1_countGreedily_42 rfl (lv_at hl 4 rfl) ?_
          refine lv_iload hx hb dX1_countGreedily_43 (lv_at hl 0 rfl) ?_
          refine lv_iload hx hb dX1_countGreedily_45 (lv_at hl 1 rfl) ?_
          refine n_imul hx hb dX1_countGreedily_47 ?_
          refine n_isub hx hb dX1_countGreedily_48 ?_
          refine lv_istore_n (lv' := [(2, .int (iI (((grL val fal sum q : Nat) : Int) - ((((grL val fal sum q) / (val (fal q)) : Nat) : Int) * (val (fal q) : Int))))), (6, .int (iI (((grL val fal sum q) / (val (fal q)) : Nat) : Int))), (5, .int (iI (val (fal q) : Int))), (0, .ref (ad i)), (1, .int (iI ((sum : Nat) : Int))), (3, .int (iI ((grA val fal sum q : Nat) : Int))), (4, .int (iI ((q : Nat) : Int)))]) hx hb dX1_countGreedily_49 rfl hl (by decide) rfl (fun ls hl => ?_)
          refine lv_iload_n hx hb dX1_countGreedily_50 rfl (lv_at hl 5 rfl) ?_
          refine lv_iload hx hb dX1_countGreedily_51 (lv_at hl 1 rfl) ?_
          refine n_iadd hx hb dX1_countGreedily_53 ?_
          refine lv_istore_n (lv' := [(3, .int (iI (((grA val fal sum q : Nat) : Int) + (((grL val fal sum q) / (val (fal q)) : Nat) : Int)))), (2, .int (iI (((grL val fal sum q : Nat) : Int) - ((((grL val fal sum q) / (val (fal q)) : Nat) : Int) * (val (fal q) : Int))))), (6, .int (iI (((grL val fal sum q) / (val (fal q)) : Nat) : Int))), (5, .int (iI (val (fal q) : Int))), (0, .ref (ad i)), (1, .int (iI ((sum : Nat) : Int))), (4, .int (iI ((q : Nat) : Int)))]) hx hb dX1_countGreedily_54 rfl hl (by decide) rfl (fun ls hl => ?_)
          refine lv_iinc (v := iI (((q : Nat) : Int) + 1)) (lv' := [(4, .int (iI (((q : Nat) : Int) + 1))), (3, .int (iI (((grA val fal sum q : Nat) : Int) + (((grL val fal sum q) / (val (fal q)) : Nat) : Int)))), (2, .int (iI (((grL val fal sum q : Nat) : Int) - ((((grL val fal sum q) / (val (fal q)) : Nat) : Int) * (val (fal q) : Int))))), (6, .int (iI (((grL val fal sum q) / (val (fal q)) : Nat) : Int))), (5, .int (iI (val (fal q) : Int))), (0, .ref (ad i)), (1, .int (iI ((sum : Nat) : Int)))]) hx hb dX1_countGreedily_55 hl (k := 6) rfl (by first | exact iI_add _ _ | exact (iI_add _ _).trans (congrArg iI (by omega))) (by decide) rfl (fun ls hl => ?_)
          refine lv_goto (tgt := 7) hx hb dX1_countGreedily_58 (by decide) ?_
          exact ih2 (q + 1) _ (by omega) (by omega) (by first | exact lv_sub hl [5, 6, 2, 1, 0] rfl | exact lv_cast (lv_sub (l' := [(0, .ref (ad i)), (1, .int (iI ((sum : Nat) : Int))), (2, .int (iI (((grL val fal sum q : Nat) : Int) - ((((grL val fal sum q) / (val (fal q)) : Nat) : Int) * (val (fal q) : Int))))), (3, .int (iI (((grA val fal sum q : Nat) : Int) + (((grL val fal sum q) / (val (fal q)) : Nat) : Int)))), (4, .int (iI (((q : Nat) : Int) + 1)))]) hl [5, 6, 2, 1, 0] rfl) (lc_s (lc_s (lc_i (show ((((grL val fal sum q : Nat) : Int) - ((((grL val fal sum q) / (val (fal q)) : Nat) : Int) * (val (fal q) : Int))) : Int) = ((grL val fal sum (q + 1) : Nat) : Int) by exact nmodI _ _) (lc_i (show ((((grA val fal sum q : Nat) : Int) + (((grL val fal sum q) / (val (fal q)) : Nat) : Int)) : Int) = ((grA val fal sum (q + 1) : Nat) : Int) by rfl) (lc_i (show ((((q : Nat) : Int) + 1) : Int) = (((q + 1) : Nat) : Int) by omega) rfl))))))
  exact lp1 (cnt - 0 + 1) 0 _ (Nat.lt_succ_self _) (by omega) (by first | exact lv_sub hl [3, 4, 2, 1, 0] rfl | exact lv_cast (lv_sub (l' := [(0, .ref (ad i)), (1, .int (iI ((sum : Nat) : Int))), (2, .int (iI ((sum : Nat) : Int))), (3, .int (iI 0)), (4, .int (iI 0))]) hl [3, 4, 2, 1, 0] rfl) (lc_s (lc_s (lc_i (show (((sum : Nat) : Int) : Int) = ((grL val fal sum 0 : Nat) : Int) by omega) (lc_i (show (0 : Int) = ((grA val fal sum 0 : Nat) : Int) by omega) (lc_i (show (0 : Int) = ((0 : Nat) : Int) by omega) rfl))))))
set_option maxHeartbeats 4000000 in
set_option maxRecDepth 100000 in
theorem c_X1_leastOdd {l : Launch} {G : nG} {N : Nat} {ad : Nat → Nat} {w : Nat → va_E} {sz : Nat} (i cnt : Nat) (val fal : Nat → Nat) (lst : Nat → Int) (hN : i + 3 < N) (hc : cnt ≤ 8) (hval : ∀ k, val k ≤ 1000) (hval1 : ∀ k, k < cnt → 1 ≤ val k) (hfal : ∀ k, k < cnt → fal k < cnt) (hlst : ∀ k, k < 2001 → -1 ≤ lst k ∧ lst k ≤ k) (f_o : w i = .inr (1, [.int (iI ((cnt : Nat) : Int)), .ref (ad (i + 1)), .ref (ad (i + 2)), .ref (ad (i + 3))])) (f_v : w (i + 1) = aI G 8 (fun q => (val q : Int))) (f_f : w (i + 2) = aI G 8 (fun q => (fal q : Int))) (f_l : w (i + 3) = aI G 2001 lst) : Met l yX1_leastOdd wsX1_leastOdd ({ frames := 2, cells := 0, slots := 0, locals := 47 }) (va_Pc [.ref (ad i)] (nB G N ad w sz)) (nRd (.int (iI (fo (fun k => decide (¬ lst k = -1 ∧ ¬ grV val fal cnt k = lst k)) 2001 0)))) 0 0 (fun _ => False) := by
  refine n_ent (cc := cX1_leastOdd) (maxL := 2) (ret := (some .int)) (by decide) rfl (Nat.le_of_ble_eq_true rfl) ?_
  intro p e s m below meth cd hx hb hr hml hlocks hts hown hnm hsz hP hK hI Q hQ ls hl
  have hown : s.vm.findClass RX1 = some m.cls := hown
  have hl : lv_has ls 2 [(0, .ref (ad i))] := hl
  refine n_iconst hx hb dX1_leastOdd_0 ?_
  refine lv_istore_n (lv' := [(1, .int (iI 0)), (0, .ref (ad i))]) hx hb dX1_leastOdd_1 rfl hl (by decide) rfl (fun ls hl => ?_)
  have lp1 : ∀ (fu : Nat), ∀ (q : Nat), ∀ (ls : Array Slot), 2001 - q < fu → q ≤ 2001 → fo (fun k => decide (¬ lst k = -1 ∧ ¬ grV val fal cnt k = lst k)) 2001 0 = fo (fun k => decide (¬ lst k = -1 ∧ ¬ grV val fal cnt k = lst k)) (2001 - q) q → lv_has ls 2 [(0, .ref (ad i)), (1, .int (iI ((q : Nat) : Int)))] → W p l e ({ frames := 2, cells := 0, slots := 0, locals := 47 } : Room) s m ([.ref (ad i)] : List Value).toArray below meth cd s.heap [] 0 0 Q (F0 m 2 ls []) := by
    intro fu
    induction fu with
    | zero =>
      intro q ls hfu hq hfo hl
      exact absurd hfu (Nat.not_lt_zero _)
    | succ fu ih2 =>
      intro q ls hfu hq hfo hl
      refine lv_iload_n hx hb dX1_leastOdd_2 rfl (lv_at hl 1 rfl) ?_
      refine n_sipush hx hb dX1_leastOdd_3 (by decide) ?_
      refine n_icmp_gt (tgt := 41) hx hb dX1_leastOdd_6 (by decide) (by omega) (by omega) (fun hc6 => ?_) (fun hc6 => ?_)
      · skip
        refine n_iconst hx hb dX1_leastOdd_41 ?_
        exact n_iretR hQ hx hb hr hlocks (hfo.trans (by rw [show 2001 - q = 0 by omega]; rfl)).symm dX1_leastOdd_42
      · skip
        refine lv_aload_n hx hb dX1_leastOdd_9 rfl (lv_at hl 0 rfl) ?_
        refine n_get hx hb hts u_X1 hown hK hP (by omega) f_o rfl 3 (by decide) (nT_m wf_X1_22) rfl dX1_leastOdd_10 ?_
        refine lv_iload_n hx hb dX1_leastOdd_13 rfl (lv_at hl 1 rfl) ?_
        refine n_iald hx hb hK hP q (by omega) f_l (by omega) (by omega) (by decide) dX1_leastOdd_14 ?_
        have ho3 := hlst q (by omega)
        refine n_iconst hx hb dX1_leastOdd_15 ?_
        refine n_icmp_eq (tgt := 35) hx hb dX1_leastOdd_16 (by decide) (by omega) (by omega) (fun hc16 => ?_) (fun hc16 => ?_)
        · skip
          refine lv_iinc (v := iI (((q : Nat) : Int) + 1)) (lv' := [(1, .int (iI (((q : Nat) : Int) + 1))), (0, .ref (ad i))]) hx hb dX1_leastOdd_35 hl (k := 1) rfl (by first | exact iI_add _ _ | exact (iI_add _ _).trans (congrArg iI (by omega))) (by decide) rfl (fun ls hl => ?_)
          refine lv_goto (tgt := 2) hx hb dX1_leastOdd_38 (by decide) ?_
          exact ih2 (q + 1) _ (by omega) (by omega) (hfo.trans (by rw [show 2001 - q = (2001 - (q + 1)) + 1 by omega]; exact fo_f (by simp; omega))) (by first | exact lv_sub hl [1, 0] rfl | exact lv_cast (lv_sub (l' := [(0, .ref (ad i)), (1, .int (iI (((q : Nat) : Int) + 1)))]) hl [1, 0] rfl) (lc_s (lc_i (show ((((q : Nat) : Int) + 1) : Int) = (((q + 1) : Nat) : Int) by omega) rfl)))
        · skip
          refine lv_aload_n hx hb dX1_leastOdd_19 rfl (lv_at hl 0 rfl) ?_
          refine lv_iload_n hx hb dX1_leastOdd_20 rfl (lv_at hl 1 rfl) ?_
          refine n_rdF (va_runV (As := [.int (iI ((q : Nat) : Int))]) (rest := []) ⟨hx, hb, hml, hown, hts⟩ (c_X1_countGreedily _ _ val fal q (by omega) (by omega) hval hval1 hfal (by omega) f_o f_v f_f) (cwV 1 hts (nT_V wl_X1_59 wi_X1_countGreedily ws_X1_countGreedily wn_X1 wc_X1_countGreedily) rfl rfl rfl (by decide +kernel) ⟨Nat.le_of_ble_eq_true rfl, Nat.le_of_ble_eq_true rfl⟩) (nB.preV hK hI hP (by omega) f_o rfl rfl) rfl rfl hl.1 rfl (lv_room (Nat.le_of_ble_eq_true rfl)) dX1_leastOdd_21 ⟨Nat.zero_le _, Nat.zero_le _⟩) ?_
          have hgv := grV_rng val fal cnt q (by omega) (by omega)
          refine lv_aload_n hx hb dX1_leastOdd_24 rfl (lv_at hl 0 rfl) ?_
          refine n_get hx hb hts u_X1 hown hK hP (by omega) f_o rfl 3 (by decide) (nT_m wf_X1_22) rfl dX1_leastOdd_25 ?_
          refine lv_iload_n hx hb dX1_leastOdd_28 rfl (lv_at hl 1 rfl) ?_
          refine n_iald hx hb hK hP q (by omega) f_l (by omega) (by omega) (by decide) dX1_leastOdd_29 ?_
          have ho4 := hlst q (by omega)
          refine n_icmp_eq (tgt := 35) hx hb dX1_leastOdd_30 (by decide) (by omega) (by omega) (fun hc30 => ?_) (fun hc30 => ?_)
          · skip
            refine lv_iinc (v := iI (((q : Nat) : Int) + 1)) (lv' := [(1, .int (iI (((q : Nat) : Int) + 1))), (0, .ref (ad i))]) hx hb dX1_leastOdd_35 hl (k := 1) rfl (by first | exact iI_add _ _ | exact (iI_add _ _).trans (congrArg iI (by omega))) (by decide) rfl (fun ls hl => ?_)
            refine lv_goto (tgt := 2) hx hb dX1_leastOdd_38 (by decide) ?_
            exact ih2 (q + 1) _ (by omega) (by omega) (hfo.trans (by rw [show 2001 - q = (2001 - (q + 1)) + 1 by omega]; exact fo_f (by simp; omega))) (by first | exact lv_sub hl [1, 0] rfl | exact lv_cast (lv_sub (l' := [(0, .ref (ad i)), (1, .int (iI (((q : Nat) : Int) + 1)))]) hl [1, 0] rfl) (lc_s (lc_i (show ((((q : Nat) : Int) + 1) : Int) = (((q + 1) : Nat) : Int) by omega) rfl)))
          · skip
            refine lv_iload_n hx hb dX1_leastOdd_33 rfl (lv_at hl 1 rfl) ?_
            exact n_iretR hQ hx hb hr hlocks (hfo.trans (by rw [show 2001 - q = (2001 - (q + 1)) + 1 by omega]; exact fo_t (by simp; omega))).symm dX1_leastOdd_34
  exact lp1 (2001 - 0 + 1) 0 _ (Nat.lt_succ_self _) (by omega) rfl (by first | exact lv_sub hl [1, 0] rfl | exact lv_cast (lv_sub (l' := [(0, .ref (ad i)), (1, .int (iI 0))]) hl [1, 0] rfl) (lc_s (lc_i (show (0 : Int) = ((0 : Nat) : Int) by omega) rfl)))
set_option maxHeartbeats 4000000 in
set_option maxRecDepth 100000 in
theorem c_X1_detail {l : Launch} {G : nG} {N : Nat} {ad : Nat → Nat} {w : Nat → va_E} {sz : Nat} (i cnt : Nat) (val : Nat → Nat) (z : Int) (hN : i + 3 < N) (hc : cnt ≤ 8) (hz : -2147483648 ≤ z ∧ z < 2147483648) (hval : ∀ k, val k ≤ 1000) (f_o : w i = .inr (1, [.int (iI ((cnt : Nat) : Int)), .ref (ad (i + 1)), .ref (ad (i + 2)), .ref (ad (i + 3))])) (f_v : w (i + 1) = aI G 8 (fun q => (val q : Int))) : Met l yX1_detail wsX1_detail ({ frames := 2, cells := 0, slots := 0, locals := 43 }) (va_Pc [.ref (ad i), .int (iI z)] (nB G N ad w sz)) (nRd (.int (iI (if z = 0 then (cnt : Int) else if 10 ≤ z ∧ z < 10 + (cnt : Int) then (val (z - 10).toNat : Int) else -1)))) 0 0 (fun _ => False) := by
  refine n_ent (cc := cX1_detail) (maxL := 2) (ret := (some .int)) (by decide) rfl (Nat.le_of_ble_eq_true rfl) ?_
  intro p e s m below meth cd hx hb hr hml hlocks hts hown hnm hsz hP hK hI Q hQ ls hl
  have hown : s.vm.findClass RX1 = some m.cls := hown
  have hl : lv_has ls 2 [(0, .ref (ad i)), (1, .int (iI z))] := hl
  refine lv_iload_n hx hb dX1_detail_0 rfl (lv_at hl 1 rfl) ?_
  refine n_if_ne (tgt := 9) hx hb dX1_detail_1 (by decide) (by omega) (fun hc1 => ?_) (fun hc1 => ?_)
  · skip
    refine lv_aload_n hx hb dX1_detail_9 rfl (lv_at hl 0 rfl) ?_
    refine lv_iload_n hx hb dX1_detail_10 rfl (lv_at hl 1 rfl) ?_
    refine n_bipush hx hb dX1_detail_11 (by decide) ?_
    refine n_isub hx hb dX1_detail_13 ?_
    refine n_rdF (va_runV (As := [.int (iI (z - 10))]) (rest := []) ⟨hx, hb, hml, hown, hts⟩ (c_X1_isCoinW i cnt z (by omega) (by omega) (by omega) f_o) (cwV 1 hts (nT_V wl_X1_63 wi_X1_isCoin ws_X1_isCoin wn_X1 wc_X1_isCoin) rfl rfl rfl (by decide +kernel) ⟨Nat.le_of_ble_eq_true rfl, Nat.le_of_ble_eq_true rfl⟩) (nB.preV hK hI hP (by omega) f_o rfl rfl) rfl rfl hl.1 rfl (lv_room (Nat.le_of_ble_eq_true rfl)) dX1_detail_14 ⟨Nat.zero_le _, Nat.zero_le _⟩) ?_
    refine n_if_eqB (tgt := 32) hx hb dX1_detail_17 (by decide) (fun hc17 => ?_) (fun hc17 => ?_)
    · skip
      refine n_iconst hx hb dX1_detail_32 ?_
      exact n_iretR hQ hx hb hr hlocks (by rw [if_neg (by omega), if_neg (by omega)]) dX1_detail_33
    · skip
      refine lv_aload_n hx hb dX1_detail_20 rfl (lv_at hl 0 rfl) ?_
      refine n_get hx hb hts u_X1 hown hK hP (by omega) f_o rfl 1 (by decide) (nT_m wf_X1_15) rfl dX1_detail_21 ?_
      refine lv_iload_n hx hb dX1_detail_24 rfl (lv_at hl 1 rfl) ?_
      refine n_bipush hx hb dX1_detail_25 (by decide) ?_
      refine n_isub hx hb dX1_detail_27 ?_
      refine n_iald hx hb hK hP ((z - 10).toNat) (by omega) f_v (by omega) (by omega) (by decide) dX1_detail_28 ?_
      have ho1 := hval ((z - 10).toNat)
      refine lv_goto (tgt := 33) hx hb dX1_detail_29 (by decide) ?_
      exact n_iretR hQ hx hb hr hlocks (by rw [if_neg (by omega), if_pos (by omega)]) dX1_detail_33
  · skip
    refine lv_aload_n hx hb dX1_detail_4 rfl (lv_at hl 0 rfl) ?_
    refine n_get hx hb hts u_X1 hown hK hP (by omega) f_o rfl 0 (by decide) (nT_m wf_X1_9) rfl dX1_detail_5 ?_
    exact n_iretR hQ hx hb hr hlocks (by rw [if_pos (by omega)]) dX1_detail_8
end
section

theorem iI_nat (n : Nat) : Int32.ofNat n = iI (n : Int) := by
  unfold iI
  rw [← Int32.toInt_inj]
  simp
theorem upN (val : Nat → Nat) (k v : Nat) : va_up (fun q => (val q : Int)) k ((v : Nat) : Int) = fun q => ((va_up val k v q : Nat) : Int) := by
  funext q
  unfold va_up
  split <;> rfl
def fillF (F : Nat → Int) (z : Int) (q : Nat) : Nat → Int := fun k => if k < q then z else F k
theorem fillF_0 (F : Nat → Int) (z : Int) : fillF F z 0 = F := by
  funext k
  unfold fillF
  rw [if_neg (Nat.not_lt_zero k)]
theorem fillF_s (F : Nat → Int) (z : Int) (q : Nat) : va_up (fillF F z q) q z = fillF F z (q + 1) := by
  funext k
  unfold fillF va_up
  by_cases h : k = q
  · rw [if_pos h, if_pos (by omega)]
  · rw [if_neg h]
    dsimp only
    by_cases h2 : k < q
    · rw [if_pos h2, if_pos (by omega)]
    · rw [if_neg h2, if_neg (by omega)]
theorem hval_up {val : Nat → Nat} {k v : Nat} (h : ∀ k, val k ≤ 1000) (hv : v ≤ 1000) : ∀ q, va_up val k v q ≤ 1000 := fun q => by
  unfold va_up
  split
  · exact hv
  · exact h q
set_option maxHeartbeats 4000000 in
set_option maxRecDepth 100000 in
theorem c_J7_fill_53178 {l : Launch} {G : nG} {N : Nat} {ad : Nat → Nat} {w : Nat → va_E} {sz : Nat} (ia n : Nat) (F : Nat → Int) (z : Int) (hN : ia < N) (hn : n < 2147483648) (f_a : w ia = aI G n F) : Met l yJ7_fill_53178 wsJ7_fill_53178 ({ frames := 0, cells := 0, slots := 0, locals := 0 }) (va_Pc [.ref (ad ia), .int (iI z)] (nB G N ad w sz)) (nPv G N ad sz (fun u => (∀ j, j ≠ ia → u j = w j) ∧ (u ia = aI G n (fillF F z n)))) 0 0 (nA N ad sz) := by
  refine n_ent (cc := cJ7_fill_53178) (maxL := 4) (ret := (none : Option Jvm.ClassFile.FieldType)) (by decide) rfl (Nat.le_of_ble_eq_true rfl) ?_
  intro p e s m below meth cd hx hb hr hml hlocks hts hown hnm hsz hP hK hI Q hQ ls hl
  have hown : s.vm.findClass RJ7 = some m.cls := hown
  subst hsz
  have hJ := hI.J s.heap.size
  have hS : va_S (nA N ad s.heap.size) s.heap s.heap [] := va_S.rf
  have hfr : ∀ j, j ≠ ia → w j = w j := fun _ _ => rfl
  have hl : lv_has ls 4 [(0, .ref (ad ia)), (1, .int (iI z))] := hl
  refine n_iconst hx hb dJ7_fill_53178_0 ?_
  refine lv_istore_n (lv' := [(2, .int (iI 0)), (0, .ref (ad ia)), (1, .int (iI z))]) hx hb dJ7_fill_53178_1 rfl hl (by decide) rfl (fun ls hl => ?_)
  refine lv_aload_n hx hb dJ7_fill_53178_2 rfl (lv_at hl 1 rfl) ?_
  refine va_alen (v := iI (n : Int)) hx hb hK.1 hP ia 0 (nL_get (by omega) f_a) rfl (by first | exact iI_nat _ | rfl | decide) dJ7_fill_53178_3 ?_
  refine lv_istore_n (lv' := [(3, .int (iI ((n : Nat) : Int))), (2, .int (iI 0)), (0, .ref (ad ia)), (1, .int (iI z))]) hx hb dJ7_fill_53178_4 rfl hl (by decide) rfl (fun ls hl => ?_)
  have lp1 : ∀ (fu : Nat), ∀ (q : Nat), ∀ (w2 : Nat → va_E) (H : Heap) (locs : List Loc), ∀ (ls : Array Slot), n - q < fu → q ≤ n → (∀ j, j ≠ ia → w2 j = w j) → w2 ia = aI G n (fillF F z q) → va_P G.1 vwCl (nL N ad w2) H → va_S (nA N ad s.heap.size) s.heap H locs → lv_has ls 4 [(0, .ref (ad ia)), (1, .int (iI z)), (2, .int (iI ((q : Nat) : Int))), (3, .int (iI ((n : Nat) : Int)))] → W p l e ({ frames := 0, cells := 0, slots := 0, locals := 0 } : Room) s m ([.ref (ad ia), .int (iI z)] : List Value).toArray below meth cd H locs 0 0 Q (F0 m 5 ls []) := by
    intro fu
    induction fu with
    | zero =>
      intro q w2 H locs ls hfu hq hfr f_a hP hS hl
      exact absurd hfu (Nat.not_lt_zero _)
    | succ fu ih3 =>
      intro q w2 H locs ls hfu hq hfr f_a hP hS hl
      refine lv_iload_n hx hb dJ7_fill_53178_5 rfl (lv_at hl 2 rfl) ?_
      refine lv_iload_n hx hb dJ7_fill_53178_6 rfl (lv_at hl 3 rfl) ?_
      refine n_icmp_ge (tgt := 20) hx hb dJ7_fill_53178_7 (by decide) (by omega) (by omega) (fun hc7 => ?_) (fun hc7 => ?_)
      · skip
        refine n_vretP hQ hx hb hr hlocks hP hS dJ7_fill_53178_20 ?_
        refine ⟨hfr, f_a.trans (congrArg (fun x => aI G n (fillF F z x)) (by omega))⟩
      · skip
        refine lv_aload_n hx hb dJ7_fill_53178_10 rfl (lv_at hl 0 rfl) ?_
        refine lv_iload_n hx hb dJ7_fill_53178_11 rfl (lv_at hl 2 rfl) ?_
        refine lv_iload_n hx hb dJ7_fill_53178_12 rfl (lv_at hl 1 rfl) ?_
        refine n_iast hx hb hK hJ hP hS q (by omega) f_a (by omega) (by omega) hn dJ7_fill_53178_13 (fun w4 H locs f_a hne5 hP hS => ?_)
        have hfr : ∀ j, j ≠ ia → w4 j = w j := fun j a0 => (hne5 j (by omega)).trans (hfr j a0)
        refine lv_iinc (v := iI (((q : Nat) : Int) + 1)) (lv' := [(2, .int (iI (((q : Nat) : Int) + 1))), (0, .ref (ad ia)), (1, .int (iI z)), (3, .int (iI ((n : Nat) : Int)))]) hx hb dJ7_fill_53178_14 hl (k := 2) rfl (by first | exact iI_add _ _ | exact (iI_add _ _).trans (congrArg iI (by omega))) (by decide) rfl (fun ls hl => ?_)
        refine lv_goto (tgt := 5) hx hb dJ7_fill_53178_17 (by decide) ?_
        exact ih3 (q + 1) _ _ _ _ (by omega) (by omega) hfr (f_a.trans (congrArg (aI G n) (fillF_s F z q))) hP hS (by first | exact lv_sub hl [1, 2, 0, 3] rfl | exact lv_cast (lv_sub (l' := [(0, .ref (ad ia)), (1, .int (iI z)), (2, .int (iI (((q : Nat) : Int) + 1))), (3, .int (iI ((n : Nat) : Int)))]) hl [1, 2, 0, 3] rfl) (lc_s (lc_s (lc_i (show ((((q : Nat) : Int) + 1) : Int) = (((q + 1) : Nat) : Int) by omega) (lc_s rfl)))))
  exact lp1 (n - 0 + 1) 0 _ _ _ _ (Nat.lt_succ_self _) (by omega) hfr (f_a.trans (by rw [fillF_0])) hP hS (by first | exact lv_sub hl [2, 3, 1, 0] rfl | exact lv_cast (lv_sub (l' := [(0, .ref (ad ia)), (1, .int (iI z)), (2, .int (iI 0)), (3, .int (iI ((n : Nat) : Int)))]) hl [2, 3, 1, 0] rfl) (lc_s (lc_s (lc_i (show (0 : Int) = ((0 : Nat) : Int) by omega) (lc_s rfl)))))

theorem wf_out {val fal : Nat → Nat} {lst : Nat → Int} {sum ii k lf : Nat} (h1 : wfT lst (val (fal ii)) (wfL val fal lst sum ii / val (fal ii)) (wfL val fal lst sum ii) = k) (h2 : lf + k * val (fal ii) = wfL val fal lst sum ii) : lf = wfL val fal lst sum (ii + 1) := by
  show lf = wfL val fal lst sum ii - wfT lst (val (fal ii)) (wfL val fal lst sum ii / val (fal ii)) (wfL val fal lst sum ii) * val (fal ii)
  rw [h1]
  omega
set_option maxHeartbeats 4000000 in
set_option maxRecDepth 100000 in
theorem c_X1_writeFewest {l : Launch} {G : nG} {N : Nat} {ad : Nat → Nat} {w : Nat → va_E} {sz : Nat} (i cnt : Nat) (val fal : Nat → Nat) (lst : Nat → Int) (sum rw : Nat) (row : Nat → Int) (hN : i + 3 < N) (hc : cnt ≤ 8) (hval : ∀ k, val k ≤ 1000) (hval1 : ∀ k, k < cnt → 1 ≤ val k) (hfal : ∀ k, k < cnt → fal k < cnt) (hlst : ∀ k, k < 2001 → -1 ≤ lst k ∧ lst k ≤ k) (hs : sum ≤ 2000) (hrw : rw < N ∧ (rw < i ∨ i + 3 < rw)) (f_o : w i = .inr (1, [.int (iI ((cnt : Nat) : Int)), .ref (ad (i + 1)), .ref (ad (i + 2)), .ref (ad (i + 3))])) (f_v : w (i + 1) = aI G 8 (fun q => (val q : Int))) (f_f : w (i + 2) = aI G 8 (fun q => (fal q : Int))) (f_l : w (i + 3) = aI G 2001 lst) (f_r : w rw = aI G 8 row) : Met l yX1_writeFewest wsX1_writeFewest ({ frames := 1, cells := 0, slots := 0, locals := 21 }) (va_Pc [.ref (ad i), .int (iI ((sum : Nat) : Int)), .ref (ad rw)] (nB G N ad w sz)) (nPv G N ad sz (fun u => (∀ j, j ≠ rw → u j = w j) ∧ (u rw = aI G 8 (wfR val fal lst sum row cnt)))) 0 0 (nA N ad sz) := by
  refine n_ent (cc := cX1_writeFewest) (maxL := 8) (ret := (none : Option Jvm.ClassFile.FieldType)) (by decide) rfl (Nat.le_of_ble_eq_true rfl) ?_
  intro p e s m below meth cd hx hb hr hml hlocks hts hown hnm hsz hP hK hI Q hQ ls hl
  have hown : s.vm.findClass RX1 = some m.cls := hown
  subst hsz
  have hJ := hI.J s.heap.size
  have hS : va_S (nA N ad s.heap.size) s.heap s.heap [] := va_S.rf
  have hfr : ∀ j, j ≠ rw → w j = w j := fun _ _ => rfl
  have hl : lv_has ls 8 [(0, .ref (ad i)), (1, .int (iI ((sum : Nat) : Int))), (2, .ref (ad rw))] := hl
  refine lv_iload_n hx hb dX1_writeFewest_0 rfl (lv_at hl 1 rfl) ?_
  refine lv_istore_n (lv' := [(3, .int (iI ((sum : Nat) : Int))), (0, .ref (ad i)), (1, .int (iI ((sum : Nat) : Int))), (2, .ref (ad rw))]) hx hb dX1_writeFewest_1 rfl hl (by decide) rfl (fun ls hl => ?_)
  refine n_iconst hx hb dX1_writeFewest_2 ?_
  refine lv_istore (lv' := [(4, .int (iI 0)), (3, .int (iI ((sum : Nat) : Int))), (0, .ref (ad i)), (1, .int (iI ((sum : Nat) : Int))), (2, .ref (ad rw))]) hx hb dX1_writeFewest_3 hl (by decide) rfl (fun ls hl => ?_)
  have lp1 : ∀ (fu : Nat), ∀ (ii : Nat), ∀ (w2 : Nat → va_E) (H : Heap) (locs : List Loc), ∀ (ls : Array Slot), cnt - ii < fu → ii ≤ cnt → (∀ j, j ≠ rw → w2 j = w j) → w2 i = .inr (1, [.int (iI ((cnt : Nat) : Int)), .ref (ad (i + 1)), .ref (ad (i + 2)), .ref (ad (i + 3))]) → w2 (i + 1) = aI G 8 (fun q => (val q : Int)) → w2 (i + 2) = aI G 8 (fun q => (fal q : Int)) → w2 (i + 3) = aI G 2001 lst → w2 rw = aI G 8 (wfR val fal lst sum row ii) → va_P G.1 vwCl (nL N ad w2) H → va_S (nA N ad s.heap.size) s.heap H locs → lv_has ls 8 [(0, .ref (ad i)), (1, .int (iI ((sum : Nat) : Int))), (2, .ref (ad rw)), (3, .int (iI ((wfL val fal lst sum ii : Nat) : Int))), (4, .int (iI ((ii : Nat) : Int)))] → W p l e ({ frames := 1, cells := 0, slots := 0, locals := 21 } : Room) s m ([.ref (ad i), .int (iI ((sum : Nat) : Int)), .ref (ad rw)] : List Value).toArray below meth cd H locs 0 0 Q (F0 m 5 ls []) := by
    intro fu
    induction fu with
    | zero =>
      intro ii w2 H locs ls hfu hii hfr f_o f_v f_f f_l f_r hP hS hl
      exact absurd hfu (Nat.not_lt_zero _)
    | succ fu ih3 =>
      intro ii w2 H locs ls hfu hii hfr f_o f_v f_f f_l f_r hP hS hl
      have hwl := wfL_le val fal lst sum ii
      refine lv_iload hx hb dX1_writeFewest_5 (lv_at hl 4 rfl) ?_
      refine lv_aload_n hx hb dX1_writeFewest_7 rfl (lv_at hl 0 rfl) ?_
      refine n_get hx hb hts u_X1 hown hK hP (by omega) f_o rfl 0 (by decide) (nT_m wf_X1_9) rfl dX1_writeFewest_8 ?_
      refine n_icmp_ge (tgt := 94) hx hb dX1_writeFewest_11 (by decide) (by omega) (by omega) (fun hc11 => ?_) (fun hc11 => ?_)
      · skip
        refine n_vretP hQ hx hb hr hlocks hP hS dX1_writeFewest_94 ?_
        refine ⟨hfr, f_r.trans (congrArg (fun x => aI G 8 (wfR val fal lst sum row x)) (by omega))⟩
      · skip
        have hf8 := hfal ii (by omega)
        have hv1 := hval1 (fal ii) hf8
        have hdl : wfL val fal lst sum ii / val (fal ii) ≤ wfL val fal lst sum ii := Nat.div_le_self _ _
        refine lv_aload_n hx hb dX1_writeFewest_14 rfl (lv_at hl 0 rfl) ?_
        refine n_get hx hb hts u_X1 hown hK hP (by omega) f_o rfl 1 (by decide) (nT_m wf_X1_15) rfl dX1_writeFewest_15 ?_
        refine lv_aload_n hx hb dX1_writeFewest_18 rfl (lv_at hl 0 rfl) ?_
        refine n_get hx hb hts u_X1 hown hK hP (by omega) f_o rfl 2 (by decide) (nT_m wf_X1_19) rfl dX1_writeFewest_19 ?_
        refine lv_iload hx hb dX1_writeFewest_22 (lv_at hl 4 rfl) ?_
        refine n_iald hx hb hK hP ii (by omega) f_f (by omega) (by omega) (by decide) dX1_writeFewest_24 ?_
        refine n_iald hx hb hK hP (fal ii) (by omega) f_v (by omega) (by omega) (by decide) dX1_writeFewest_25 ?_
        have ho4 := hval (fal ii)
        refine lv_istore (lv' := [(5, .int (iI (val (fal ii) : Int))), (0, .ref (ad i)), (1, .int (iI ((sum : Nat) : Int))), (2, .ref (ad rw)), (3, .int (iI ((wfL val fal lst sum ii : Nat) : Int))), (4, .int (iI ((ii : Nat) : Int)))]) hx hb dX1_writeFewest_26 hl (by decide) rfl (fun ls hl => ?_)
        refine lv_iload_n hx hb dX1_writeFewest_28 rfl (lv_at hl 4 rfl) ?_
        refine lv_iload hx hb dX1_writeFewest_29 (lv_at hl 0 rfl) ?_
        refine n_rdF (v := .int (iI (((wfL val fal lst sum ii) / (val (fal ii)) : Nat) : Int))) (va_runSN (As := [.int (iI ((wfL val fal lst sum ii : Nat) : Int)), .int (iI (val (fal ii) : Int))]) (rest := []) ⟨hx, hb, hml, hown, hts⟩ (c_X6_wholeTimes ((wfL val fal lst sum ii : Nat) : Int) (val (fal ii) : Int) (by omega) (by omega)) ⟨va_cnB 2 hts (nT_N wc_X6_wholeTimes) rfl rfl rfl (hK.2 _ (List.mem_of_getElem? (i := 8) rfl)) (hts _ (nT_m wn_X6)) (by decide +kernel) ⟨Nat.le_of_ble_eq_true rfl, Nat.le_of_ble_eq_true rfl⟩, hts _ (nT_m wt_X6_wholeTimes), trivial⟩ preEq rfl rfl hl.1 rfl (lv_room (Nat.le_of_ble_eq_true rfl)) dX1_writeFewest_31 ⟨Nat.zero_le _, Nat.zero_le _⟩) ?_
        refine lv_istore (lv' := [(6, .int (iI ((wfL val fal lst sum ii / val (fal ii) : Nat) : Int))), (5, .int (iI (val (fal ii) : Int))), (0, .ref (ad i)), (1, .int (iI ((sum : Nat) : Int))), (2, .ref (ad rw)), (3, .int (iI ((wfL val fal lst sum ii : Nat) : Int))), (4, .int (iI ((ii : Nat) : Int)))]) hx hb dX1_writeFewest_34 hl (by decide) rfl (fun ls hl => ?_)
        have lp5 : ∀ (k : Nat) (lf : Nat), ∀ (w6 : Nat → va_E) (H : Heap) (locs : List Loc), ∀ (ls : Array Slot), lf + k * val (fal ii) = wfL val fal lst sum ii → wfT lst (val (fal ii)) (wfL val fal lst sum ii / val (fal ii)) (wfL val fal lst sum ii) = k → (∀ j, j ≠ rw → w6 j = w j) → w6 i = .inr (1, [.int (iI ((cnt : Nat) : Int)), .ref (ad (i + 1)), .ref (ad (i + 2)), .ref (ad (i + 3))]) → w6 (i + 1) = aI G 8 (fun q => (val q : Int)) → w6 (i + 2) = aI G 8 (fun q => (fal q : Int)) → w6 (i + 3) = aI G 2001 lst → w6 rw = aI G 8 (wfR val fal lst sum row ii) → va_P G.1 vwCl (nL N ad w6) H → va_S (nA N ad s.heap.size) s.heap H locs → lv_has ls 8 [(0, .ref (ad i)), (1, .int (iI ((sum : Nat) : Int))), (2, .ref (ad rw)), (3, .int (iI ((lf : Nat) : Int))), (4, .int (iI ((ii : Nat) : Int))), (7, .int (iI ((k : Nat) : Int)))] → W p l e ({ frames := 1, cells := 0, slots := 0, locals := 21 } : Room) s m ([.ref (ad i), .int (iI ((sum : Nat) : Int)), .ref (ad rw)] : List Value).toArray below meth cd H locs 0 0 Q (F0 m 77 ls []) := by
          intro k lf w6 H locs ls hlf hk hfr f_o f_v f_f f_l f_r hP hS hl
          refine lv_aload_n hx hb dX1_writeFewest_77 rfl (lv_at hl 2 rfl) ?_
          refine lv_aload_n hx hb dX1_writeFewest_78 rfl (lv_at hl 0 rfl) ?_
          refine n_get hx hb hts u_X1 hown hK hP (by omega) f_o rfl 2 (by decide) (nT_m wf_X1_19) rfl dX1_writeFewest_79 ?_
          refine lv_iload hx hb dX1_writeFewest_82 (lv_at hl 4 rfl) ?_
          refine n_iald hx hb hK hP ii (by omega) f_f (by omega) (by omega) (by decide) dX1_writeFewest_84 ?_
          refine lv_iload hx hb dX1_writeFewest_85 (lv_at hl 5 rfl) ?_
          refine n_iast hx hb hK hJ hP hS (fal ii) (by omega) f_r (by omega) (by omega) (by decide) dX1_writeFewest_87 (fun w8 H locs f_r hne9 hP hS => ?_)
          have f_o := (hne9 i (by omega)).trans f_o
          have f_v := (hne9 (i + 1) (by omega)).trans f_v
          have f_f := (hne9 (i + 2) (by omega)).trans f_f
          have f_l := (hne9 (i + 3) (by omega)).trans f_l
          have hfr : ∀ j, j ≠ rw → w8 j = w j := fun j a0 => (hne9 j (by omega)).trans (hfr j a0)
          refine lv_iinc (v := iI (((ii : Nat) : Int) + 1)) (lv' := [(4, .int (iI (((ii : Nat) : Int) + 1))), (0, .ref (ad i)), (1, .int (iI ((sum : Nat) : Int))), (2, .ref (ad rw)), (3, .int (iI ((lf : Nat) : Int))), (7, .int (iI ((k : Nat) : Int)))]) hx hb dX1_writeFewest_88 hl (k := 4) rfl (by first | exact iI_add _ _ | exact (iI_add _ _).trans (congrArg iI (by omega))) (by decide) rfl (fun ls hl => ?_)
          refine lv_goto (tgt := 5) hx hb dX1_writeFewest_91 (by decide) ?_
          exact ih3 (ii + 1) _ _ _ _ (by omega) (by omega) hfr f_o f_v f_f f_l (by rw [← hk] at f_r; exact f_r) hP hS (by first | exact lv_sub hl [1, 2, 3, 4, 0] rfl | exact lv_cast (lv_sub (l' := [(0, .ref (ad i)), (1, .int (iI ((sum : Nat) : Int))), (2, .ref (ad rw)), (3, .int (iI ((lf : Nat) : Int))), (4, .int (iI (((ii : Nat) : Int) + 1)))]) hl [1, 2, 3, 4, 0] rfl) (lc_s (lc_s (lc_s (lc_i (show (((lf : Nat) : Int) : Int) = ((wfL val fal lst sum (ii + 1) : Nat) : Int) by rw [wf_out hk hlf]) (lc_i (show ((((ii : Nat) : Int) + 1) : Int) = (((ii + 1) : Nat) : Int) by omega) rfl))))))
        refine n_iconst hx hb dX1_writeFewest_36 ?_
        refine lv_istore (lv' := [(7, .int (iI 0)), (6, .int (iI ((wfL val fal lst sum ii / val (fal ii) : Nat) : Int))), (5, .int (iI (val (fal ii) : Int))), (0, .ref (ad i)), (1, .int (iI ((sum : Nat) : Int))), (2, .ref (ad rw)), (3, .int (iI ((wfL val fal lst sum ii : Nat) : Int))), (4, .int (iI ((ii : Nat) : Int)))]) hx hb dX1_writeFewest_37 hl (by decide) rfl (fun ls hl => ?_)
        have lp10 : ∀ (fu : Nat), ∀ (k : Nat) (lf : Nat), ∀ (w11 : Nat → va_E) (H : Heap) (locs : List Loc), ∀ (ls : Array Slot), wfL val fal lst sum ii / val (fal ii) - k < fu → k ≤ wfL val fal lst sum ii / val (fal ii) → lf + k * val (fal ii) = wfL val fal lst sum ii → wfT lst (val (fal ii)) (wfL val fal lst sum ii / val (fal ii)) (wfL val fal lst sum ii) = k + wfT lst (val (fal ii)) (wfL val fal lst sum ii / val (fal ii) - k) lf → (∀ j, j ≠ rw → w11 j = w j) → w11 i = .inr (1, [.int (iI ((cnt : Nat) : Int)), .ref (ad (i + 1)), .ref (ad (i + 2)), .ref (ad (i + 3))]) → w11 (i + 1) = aI G 8 (fun q => (val q : Int)) → w11 (i + 2) = aI G 8 (fun q => (fal q : Int)) → w11 (i + 3) = aI G 2001 lst → w11 rw = aI G 8 (wfR val fal lst sum row ii) → va_P G.1 vwCl (nL N ad w11) H → va_S (nA N ad s.heap.size) s.heap H locs → lv_has ls 8 [(0, .ref (ad i)), (1, .int (iI ((sum : Nat) : Int))), (2, .ref (ad rw)), (3, .int (iI ((lf : Nat) : Int))), (4, .int (iI ((ii : Nat) : Int))), (5, .int (iI ((val (fal ii) : Nat) : Int))), (6, .int (iI ((wfL val fal lst sum ii / val (fal ii) : Nat) : Int))), (7, .int (iI ((k : Nat) : Int)))] → W p l e ({ frames := 1, cells := 0, slots := 0, locals := 21 } : Room) s m ([.ref (ad i), .int (iI ((sum : Nat) : Int)), .ref (ad rw)] : List Value).toArray below meth cd H locs 0 0 Q (F0 m 39 ls []) := by
          intro fu
          induction fu with
          | zero =>
            intro k lf w11 H locs ls hfu hk1 hlf hT hfr f_o f_v f_f f_l f_r hP hS hl
            exact absurd hfu (Nat.not_lt_zero _)
          | succ fu ih12 =>
            intro k lf w11 H locs ls hfu hk1 hlf hT hfr f_o f_v f_f f_l f_r hP hS hl
            refine lv_iload hx hb dX1_writeFewest_39 (lv_at hl 7 rfl) ?_
            refine lv_iload hx hb dX1_writeFewest_41 (lv_at hl 6 rfl) ?_
            refine n_icmp_ge (tgt := 77) hx hb dX1_writeFewest_43 (by decide) (by omega) (by omega) (fun hc43 => ?_) (fun hc43 => ?_)
            · skip
              exact lp5 k lf _ _ _ _ (by omega) (by rw [hT, show wfL val fal lst sum ii / val (fal ii) - k = 0 by omega]; rfl) hfr f_o f_v f_f f_l f_r hP hS (lv_sub hl [0, 1, 2, 3, 4, 7] rfl)
            · skip
              have hm9 : (k + 1) * val (fal ii) ≤ wfL val fal lst sum ii := (Nat.le_div_iff_mul_le (by omega)).mp (by omega)
              rw [Nat.succ_mul] at hm9
              refine lv_aload_n hx hb dX1_writeFewest_46 rfl (lv_at hl 0 rfl) ?_
              refine n_get hx hb hts u_X1 hown hK hP (by omega) f_o rfl 3 (by decide) (nT_m wf_X1_22) rfl dX1_writeFewest_47 ?_
              refine lv_iload_n hx hb dX1_writeFewest_50 rfl (lv_at hl 3 rfl) ?_
              refine lv_iload hx hb dX1_writeFewest_51 (lv_at hl 5 rfl) ?_
              refine n_isub hx hb dX1_writeFewest_53 ?_
              refine n_iald hx hb hK hP (lf - val (fal ii)) (by omega) f_l (by omega) (by omega) (by decide) dX1_writeFewest_54 ?_
              have ho13 := hlst (lf - val (fal ii)) (by omega)
              refine lv_aload_n hx hb dX1_writeFewest_55 rfl (lv_at hl 0 rfl) ?_
              refine n_get hx hb hts u_X1 hown hK hP (by omega) f_o rfl 3 (by decide) (nT_m wf_X1_22) rfl dX1_writeFewest_56 ?_
              refine lv_iload_n hx hb dX1_writeFewest_59 rfl (lv_at hl 3 rfl) ?_
              refine n_iald hx hb hK hP lf (by omega) f_l (by omega) (by omega) (by decide) dX1_writeFewest_60 ?_
              have ho14 := hlst lf (by omega)
              refine n_iconst hx hb dX1_writeFewest_61 ?_
              refine n_isub hx hb dX1_writeFewest_62 ?_
              refine n_icmp_ne (tgt := 77) hx hb dX1_writeFewest_63 (by decide) (by omega) (by omega) (fun hc63 => ?_) (fun hc63 => ?_)
              · skip
                exact lp5 k lf _ _ _ _ (by omega) (by rw [hT, show wfL val fal lst sum ii / val (fal ii) - k = (wfL val fal lst sum ii / val (fal ii) - (k + 1)) + 1 by omega, wfT_n hc63]; rfl) hfr f_o f_v f_f f_l f_r hP hS (lv_sub hl [0, 1, 2, 3, 4, 7] rfl)
              · skip
                refine lv_iload_n hx hb dX1_writeFewest_66 rfl (lv_at hl 3 rfl) ?_
                refine lv_iload hx hb dX1_writeFewest_67 (lv_at hl 5 rfl) ?_
                refine n_isub hx hb dX1_writeFewest_69 ?_
                refine lv_istore_n (lv' := [(3, .int (iI (((lf : Nat) : Int) - ((val (fal ii) : Nat) : Int)))), (0, .ref (ad i)), (1, .int (iI ((sum : Nat) : Int))), (2, .ref (ad rw)), (4, .int (iI ((ii : Nat) : Int))), (5, .int (iI ((val (fal ii) : Nat) : Int))), (6, .int (iI ((wfL val fal lst sum ii / val (fal ii) : Nat) : Int))), (7, .int (iI ((k : Nat) : Int)))]) hx hb dX1_writeFewest_70 rfl hl (by decide) rfl (fun ls hl => ?_)
                refine lv_iinc (v := iI (((k : Nat) : Int) + 1)) (lv' := [(7, .int (iI (((k : Nat) : Int) + 1))), (3, .int (iI (((lf : Nat) : Int) - ((val (fal ii) : Nat) : Int)))), (0, .ref (ad i)), (1, .int (iI ((sum : Nat) : Int))), (2, .ref (ad rw)), (4, .int (iI ((ii : Nat) : Int))), (5, .int (iI ((val (fal ii) : Nat) : Int))), (6, .int (iI ((wfL val fal lst sum ii / val (fal ii) : Nat) : Int)))]) hx hb dX1_writeFewest_71 hl (k := 7) rfl (by first | exact iI_add _ _ | exact (iI_add _ _).trans (congrArg iI (by omega))) (by decide) rfl (fun ls hl => ?_)
                refine lv_goto (tgt := 39) hx hb dX1_writeFewest_74 (by decide) ?_
                have hm9 : (k + 1) * val (fal ii) = k * val (fal ii) + val (fal ii) := Nat.succ_mul _ _
                have hT9 := hT
                rw [show wfL val fal lst sum ii / val (fal ii) - k = (wfL val fal lst sum ii / val (fal ii) - (k + 1)) + 1 by omega, wfT_y hc63] at hT9
                exact ih12 (k + 1) (lf - val (fal ii)) _ _ _ _ (by omega) (by omega) (by omega) (by omega) hfr f_o f_v f_f f_l f_r hP hS (by first | exact lv_sub hl [2, 3, 4, 1, 5, 6, 7, 0] rfl | exact lv_cast (lv_sub (l' := [(0, .ref (ad i)), (1, .int (iI ((sum : Nat) : Int))), (2, .ref (ad rw)), (3, .int (iI (((lf : Nat) : Int) - ((val (fal ii) : Nat) : Int)))), (4, .int (iI ((ii : Nat) : Int))), (5, .int (iI ((val (fal ii) : Nat) : Int))), (6, .int (iI ((wfL val fal lst sum ii / val (fal ii) : Nat) : Int))), (7, .int (iI (((k : Nat) : Int) + 1)))]) hl [2, 3, 4, 1, 5, 6, 7, 0] rfl) (lc_s (lc_s (lc_s (lc_i (show ((((lf : Nat) : Int) - ((val (fal ii) : Nat) : Int)) : Int) = (((lf - val (fal ii)) : Nat) : Int) by omega) (lc_s (lc_s (lc_s (lc_i (show ((((k : Nat) : Int) + 1) : Int) = (((k + 1) : Nat) : Int) by omega) rfl)))))))))
        exact lp10 (wfL val fal lst sum ii / val (fal ii) - 0 + 1) 0 (wfL val fal lst sum ii) _ _ _ _ (Nat.lt_succ_self _) (Nat.zero_le _) (by omega) (by rw [Nat.zero_add]; rfl) hfr f_o f_v f_f f_l f_r hP hS (by first | exact lv_sub hl [3, 4, 5, 6, 7, 2, 1, 0] rfl | exact lv_cast (lv_sub (l' := [(0, .ref (ad i)), (1, .int (iI ((sum : Nat) : Int))), (2, .ref (ad rw)), (3, .int (iI ((wfL val fal lst sum ii : Nat) : Int))), (4, .int (iI ((ii : Nat) : Int))), (5, .int (iI (val (fal ii) : Int))), (6, .int (iI ((wfL val fal lst sum ii / val (fal ii) : Nat) : Int))), (7, .int (iI 0))]) hl [3, 4, 5, 6, 7, 2, 1, 0] rfl) (lc_s (lc_s (lc_s (lc_i (show (((wfL val fal lst sum ii : Nat) : Int) : Int) = (((wfL val fal lst sum ii) : Nat) : Int) by omega) (lc_s (lc_i (show ((val (fal ii) : Int) : Int) = ((val (fal ii) : Nat) : Int) by omega) (lc_s (lc_i (show (0 : Int) = ((0 : Nat) : Int) by omega) rfl)))))))))
  exact lp1 (cnt - 0 + 1) 0 _ _ _ _ (Nat.lt_succ_self _) (by omega) hfr f_o f_v f_f f_l f_r hP hS (by first | exact lv_sub hl [2, 3, 4, 1, 0] rfl | exact lv_cast (lv_sub (l' := [(0, .ref (ad i)), (1, .int (iI ((sum : Nat) : Int))), (2, .ref (ad rw)), (3, .int (iI ((sum : Nat) : Int))), (4, .int (iI 0))]) hl [2, 3, 4, 1, 0] rfl) (lc_s (lc_s (lc_s (lc_i (show (((sum : Nat) : Int) : Int) = ((wfL val fal lst sum 0 : Nat) : Int) by omega) (lc_i (show (0 : Int) = ((0 : Nat) : Int) by omega) rfl))))))
set_option maxHeartbeats 4000000 in
set_option maxRecDepth 100000 in
theorem c_X1_add_no {l : Launch} {G : nG} {N : Nat} {ad : Nat → Nat} {w : Nat → va_E} {sz : Nat} (i cnt : Nat) (val : Nat → Nat) (z : Int) (hN : i + 3 < N) (hc : cnt ≤ 8) (hz : -2147483648 ≤ z ∧ z < 2147483648) (hval : ∀ k, val k ≤ 1000) (hno : cnt = 8 ∨ ¬ (1 ≤ z ∧ z ≤ 1000) ∨ anyV val z cnt = true) (f_o : w i = .inr (1, [.int (iI ((cnt : Nat) : Int)), .ref (ad (i + 1)), .ref (ad (i + 2)), .ref (ad (i + 3))])) (f_v : w (i + 1) = aI G 8 (fun q => (val q : Int))) : Met l yX1_add wsX1_add ({ frames := 1, cells := 0, slots := 0, locals := 23 }) (va_Pc [.ref (ad i), .int (iI z)] (nB G N ad w sz)) (nRd (.int (iI (-1)))) 0 0 (fun _ => False) := by
  refine n_ent (cc := cX1_add) (maxL := 2) (ret := (some .int)) (by decide) rfl (Nat.le_of_ble_eq_true rfl) ?_
  intro p e s m below meth cd hx hb hr hml hlocks hts hown hnm hsz hP hK hI Q hQ ls hl
  have hown : s.vm.findClass RX1 = some m.cls := hown
  have hl : lv_has ls 2 [(0, .ref (ad i)), (1, .int (iI z))] := hl
  refine lv_aload_n hx hb dX1_add_0 rfl (lv_at hl 0 rfl) ?_
  refine n_get hx hb hts u_X1 hown hK hP (by omega) f_o rfl 0 (by decide) (nT_m wf_X1_9) rfl dX1_add_1 ?_
  refine n_bipush hx hb dX1_add_4 (by decide) ?_
  refine n_icmp_ge (tgt := 28) hx hb dX1_add_6 (by decide) (by omega) (by omega) (fun hc6 => ?_) (fun hc6 => ?_)
  · skip
    refine n_iconst hx hb dX1_add_28 ?_
    exact n_iretR hQ hx hb hr hlocks rfl dX1_add_29
  · skip
    refine n_iconst hx hb dX1_add_9 ?_
    refine lv_iload_n hx hb dX1_add_10 rfl (lv_at hl 1 rfl) ?_
    refine n_sipush hx hb dX1_add_11 (by decide) ?_
    refine n_rdF (va_runSN (As := [.int (iI 1), .int (iI z), .int (iI 1000)]) (rest := []) ⟨hx, hb, hml, hown, hts⟩ (c_X6_within 1 z 1000 (by omega) (by omega) (by omega)) ⟨va_cnB 3 hts (nT_N wc_X6_within) rfl rfl rfl (hK.2 _ (List.mem_of_getElem? (i := 4) rfl)) (hts _ (nT_m wn_X6)) (by decide +kernel) ⟨Nat.le_of_ble_eq_true rfl, Nat.le_of_ble_eq_true rfl⟩, hts _ (nT_m wt_X6_within), trivial⟩ preEq rfl rfl hl.1 rfl (lv_room (Nat.le_of_ble_eq_true rfl)) dX1_add_14 ⟨Nat.zero_le _, Nat.zero_le _⟩) ?_
    refine n_if_eqB (tgt := 28) hx hb dX1_add_17 (by decide) (fun hc17 => ?_) (fun hc17 => ?_)
    · skip
      refine n_iconst hx hb dX1_add_28 ?_
      exact n_iretR hQ hx hb hr hlocks rfl dX1_add_29
    · skip
      refine lv_aload_n hx hb dX1_add_20 rfl (lv_at hl 0 rfl) ?_
      refine lv_iload_n hx hb dX1_add_21 rfl (lv_at hl 1 rfl) ?_
      refine n_rdF (va_runV (As := [.int (iI z)]) (rest := []) ⟨hx, hb, hml, hown, hts⟩ (c_X1_isValue i cnt val z (by omega) (by omega) (by omega) hval f_o f_v) (cwV 1 hts (nT_V wl_X1_41 wi_X1_isValue ws_X1_isValue wn_X1 wc_X1_isValue) rfl rfl rfl (by decide +kernel) ⟨Nat.le_of_ble_eq_true rfl, Nat.le_of_ble_eq_true rfl⟩) (nB.preV hK hI hP (by omega) f_o rfl rfl) rfl rfl hl.1 rfl (lv_room (Nat.le_of_ble_eq_true rfl)) dX1_add_22 ⟨Nat.zero_le _, Nat.zero_le _⟩) ?_
      refine n_if_eqB (tgt := 30) hx hb dX1_add_25 (by decide) (fun hc25 => ?_) (fun hc25 => ?_)
      · skip
        rcases hno with h | h | h
        · omega
        · omega
        · exact absurd h hc25
      · skip
        refine n_iconst hx hb dX1_add_28 ?_
        exact n_iretR hQ hx hb hr hlocks rfl dX1_add_29
set_option maxHeartbeats 4000000 in
set_option maxRecDepth 100000 in
theorem c_X1_add_yes {l : Launch} {G : nG} {N : Nat} {ad : Nat → Nat} {w : Nat → va_E} {sz : Nat} (i cnt : Nat) (val fal : Nat → Nat) (lst : Nat → Int) (v : Nat) (hN : i + 3 < N) (hc : cnt < 8) (hv : 1 ≤ v ∧ v ≤ 1000) (hval : ∀ k, val k ≤ 1000) (hfal : ∀ k, k < cnt → fal k < 8) (hlst : ∀ k, k < 2001 → -1 ≤ lst k ∧ lst k ≤ k) (hno : anyV val v cnt = false) (f_o : w i = .inr (1, [.int (iI ((cnt : Nat) : Int)), .ref (ad (i + 1)), .ref (ad (i + 2)), .ref (ad (i + 3))])) (f_v : w (i + 1) = aI G 8 (fun q => (val q : Int))) (f_f : w (i + 2) = aI G 8 (fun q => (fal q : Int))) (f_l : w (i + 3) = aI G 2001 lst) : Met l yX1_add wsX1_add ({ frames := 1, cells := 0, slots := 0, locals := 23 }) (va_Pc [.ref (ad i), .int (iI ((v : Nat) : Int))] (nB G N ad w sz)) (nPi G N ad sz (fun r u => (∀ j, j ≠ i → j ≠ (i + 1) → j ≠ (i + 2) → j ≠ (i + 3) → u j = w j) ∧ (r = cnt) ∧ (u i = .inr (1, [.int (iI ((cnt + 1 : Nat) : Int)), .ref (ad (i + 1)), .ref (ad (i + 2)), .ref (ad (i + 3))])) ∧ (u (i + 1) = aI G 8 (fun q => ((va_up val cnt v q : Nat) : Int))) ∧ (u (i + 2) = aI G 8 (fun k => (insF fal cnt (insP (va_up val cnt v) fal v cnt) k : Int))) ∧ (u (i + 3) = aI G 2001 (imp lst v (2001 - v))))) 0 0 (nA N ad sz) := by
  refine n_ent (cc := cX1_add) (maxL := 2) (ret := (some .int)) (by decide) rfl (Nat.le_of_ble_eq_true rfl) ?_
  intro p e s m below meth cd hx hb hr hml hlocks hts hown hnm hsz hP hK hI Q hQ ls hl
  have hown : s.vm.findClass RX1 = some m.cls := hown
  subst hsz
  have hJ := hI.J s.heap.size
  have hS : va_S (nA N ad s.heap.size) s.heap s.heap [] := va_S.rf
  have hfr : ∀ j, j ≠ i → j ≠ (i + 1) → j ≠ (i + 2) → j ≠ (i + 3) → w j = w j := fun _ _ _ _ _ => rfl
  have hl : lv_has ls 2 [(0, .ref (ad i)), (1, .int (iI ((v : Nat) : Int)))] := hl
  refine lv_aload_n hx hb dX1_add_0 rfl (lv_at hl 0 rfl) ?_
  refine n_get hx hb hts u_X1 hown hK hP (by omega) f_o rfl 0 (by decide) (nT_m wf_X1_9) rfl dX1_add_1 ?_
  refine n_bipush hx hb dX1_add_4 (by decide) ?_
  refine n_icmp_ge (tgt := 28) hx hb dX1_add_6 (by decide) (by omega) (by omega) (fun hc6 => ?_) (fun hc6 => ?_)
  · skip
    exact absurd hc6 (by omega)
  · skip
    refine n_iconst hx hb dX1_add_9 ?_
    refine lv_iload_n hx hb dX1_add_10 rfl (lv_at hl 1 rfl) ?_
    refine n_sipush hx hb dX1_add_11 (by decide) ?_
    refine n_rdF (va_runSN (As := [.int (iI 1), .int (iI ((v : Nat) : Int)), .int (iI 1000)]) (rest := []) ⟨hx, hb, hml, hown, hts⟩ (c_X6_within 1 ((v : Nat) : Int) 1000 (by omega) (by omega) (by omega)) ⟨va_cnB 3 hts (nT_N wc_X6_within) rfl rfl rfl (hK.2 _ (List.mem_of_getElem? (i := 4) rfl)) (hts _ (nT_m wn_X6)) (by decide +kernel) ⟨Nat.le_of_ble_eq_true rfl, Nat.le_of_ble_eq_true rfl⟩, hts _ (nT_m wt_X6_within), trivial⟩ preEq rfl rfl hl.1 rfl (lv_room (Nat.le_of_ble_eq_true rfl)) dX1_add_14 ⟨Nat.zero_le _, Nat.zero_le _⟩) ?_
    refine n_if_eqB (tgt := 28) hx hb dX1_add_17 (by decide) (fun hc17 => ?_) (fun hc17 => ?_)
    · skip
      exact absurd hc17 (by omega)
    · skip
      refine lv_aload_n hx hb dX1_add_20 rfl (lv_at hl 0 rfl) ?_
      refine lv_iload_n hx hb dX1_add_21 rfl (lv_at hl 1 rfl) ?_
      refine n_rdF (va_runV (As := [.int (iI ((v : Nat) : Int))]) (rest := []) ⟨hx, hb, hml, hown, hts⟩ (c_X1_isValue i cnt val _ (by omega) (by omega) (by omega) hval f_o f_v) (cwV 1 hts (nT_V wl_X1_41 wi_X1_isValue ws_X1_isValue wn_X1 wc_X1_isValue) rfl rfl rfl (by decide +kernel) ⟨Nat.le_of_ble_eq_true rfl, Nat.le_of_ble_eq_true rfl⟩) (nB.preV hK hI hP (by omega) f_o rfl rfl) rfl rfl hl.1 rfl (lv_room (Nat.le_of_ble_eq_true rfl)) dX1_add_22 ⟨Nat.zero_le _, Nat.zero_le _⟩) ?_
      refine n_if_eqB (tgt := 30) hx hb dX1_add_25 (by decide) (fun hc25 => ?_) (fun hc25 => ?_)
      · skip
        refine lv_aload_n hx hb dX1_add_30 rfl (lv_at hl 0 rfl) ?_
        refine n_get hx hb hts u_X1 hown hK hP (by omega) f_o rfl 1 (by decide) (nT_m wf_X1_15) rfl dX1_add_31 ?_
        refine lv_aload_n hx hb dX1_add_34 rfl (lv_at hl 0 rfl) ?_
        refine n_get hx hb hts u_X1 hown hK hP (by omega) f_o rfl 0 (by decide) (nT_m wf_X1_9) rfl dX1_add_35 ?_
        refine lv_iload_n hx hb dX1_add_38 rfl (lv_at hl 1 rfl) ?_
        refine n_iast hx hb hK hJ hP hS cnt (by omega) f_v (by omega) (by omega) (by decide) dX1_add_39 (fun w1 H locs f_v hne2 hP hS => ?_)
        have f_o := (hne2 i (by omega)).trans f_o
        have f_f := (hne2 (i + 2) (by omega)).trans f_f
        have f_l := (hne2 (i + 3) (by omega)).trans f_l
        have hfr : ∀ j, j ≠ i → j ≠ (i + 1) → j ≠ (i + 2) → j ≠ (i + 3) → w1 j = w j := fun j a0 a1 a2 a3 => (hne2 j (by omega)).trans (hfr j a0 a1 a2 a3)
        have f_v := f_v.trans (congrArg (aI G 8) (upN val cnt v))
        have hvu := hval_up (k := cnt) hval (show v ≤ 1000 by omega)
        have e7 : va_up val cnt v cnt = v := va_up_self _ _ _
        refine lv_aload_n hx hb dX1_add_40 rfl (lv_at hl 0 rfl) ?_
        refine lv_aload_n hx hb dX1_add_41 rfl (lv_at hl 0 rfl) ?_
        refine n_get hx hb hts u_X1 hown hK hP (by omega) f_o rfl 0 (by decide) (nT_m wf_X1_9) rfl dX1_add_42 ?_
        refine n_cV (va_runV (As := [.int (iI ((cnt : Nat) : Int))]) (rest := []) ⟨hx, hb, hml, hown, hts⟩ (c_X1_rank i cnt cnt (va_up val cnt v) fal (by omega) (by omega) hvu hfal f_o f_v f_f) (cwV 1 hts (nT_V wl_X1_45 wi_X1_rank ws_X1_rank wn_X1 wc_X1_rank) rfl rfl rfl (by decide +kernel) ⟨Nat.le_of_ble_eq_true rfl, Nat.le_of_ble_eq_true rfl⟩) (nB.preV hK hI hP (by omega) f_o rfl rfl) rfl rfl hl.1 rfl (lv_room (Nat.le_of_ble_eq_true rfl)) dX1_add_45 ⟨Nat.zero_le _, Nat.zero_le _⟩) hS (fun w3 H locs hq5 hP hS => ?_)
        obtain ⟨hne6, hpf⟩ := hq5
        have f_o := (hne6 i (by omega)).trans f_o
        have f_v := (hne6 (i + 1) (by omega)).trans f_v
        have f_l := (hne6 (i + 3) (by omega)).trans f_l
        have f_f : w3 (i + 2) = aI G 8 (fun k => (insF fal cnt (insP (va_up val cnt v) fal v cnt) k : Int)) := (by rw [e7] at hpf; exact hpf)
        have hfr : ∀ j, j ≠ i → j ≠ (i + 1) → j ≠ (i + 2) → j ≠ (i + 3) → w3 j = w j := fun j a0 a1 a2 a3 => (hne6 j (by omega)).trans (hfr j a0 a1 a2 a3)
        refine lv_aload_n hx hb dX1_add_48 rfl (lv_at hl 0 rfl) ?_
        refine lv_iload_n hx hb dX1_add_49 rfl (lv_at hl 1 rfl) ?_
        refine n_cV (va_runV (As := [.int (iI ((v : Nat) : Int))]) (rest := []) ⟨hx, hb, hml, hown, hts⟩ (c_X1_improve i v cnt lst (by omega) hv hlst f_o f_l) (cwV 1 hts (nT_V wl_X1_49 wi_X1_improve ws_X1_improve wn_X1 wc_X1_improve) rfl rfl rfl (by decide +kernel) ⟨Nat.le_of_ble_eq_true rfl, Nat.le_of_ble_eq_true rfl⟩) (nB.preV hK hI hP (by omega) f_o rfl rfl) rfl rfl hl.1 rfl (lv_room (Nat.le_of_ble_eq_true rfl)) dX1_add_50 ⟨Nat.zero_le _, Nat.zero_le _⟩) hS (fun w7 H locs hq9 hP hS => ?_)
        obtain ⟨hne10, hpl⟩ := hq9
        have f_o := (hne10 i (by omega)).trans f_o
        have f_v := (hne10 (i + 1) (by omega)).trans f_v
        have f_f := (hne10 (i + 2) (by omega)).trans f_f
        have f_l : w7 (i + 3) = aI G 2001 (imp lst v (2001 - v)) := hpl
        have hfr : ∀ j, j ≠ i → j ≠ (i + 1) → j ≠ (i + 2) → j ≠ (i + 3) → w7 j = w j := fun j a0 a1 a2 a3 => (hne10 j (by omega)).trans (hfr j a0 a1 a2 a3)
        refine lv_aload_n hx hb dX1_add_53 rfl (lv_at hl 0 rfl) ?_
        refine lv_dup hx hb dX1_add_54 rfl ?_
        refine n_get hx hb hts u_X1 hown hK hP (by omega) f_o rfl 0 (by decide) (nT_m wf_X1_9) rfl dX1_add_55 ?_
        refine n_iconst hx hb dX1_add_58 ?_
        refine n_iadd hx hb dX1_add_59 ?_
        refine n_put hx hb hts u_X1 tyX1 tyX1_ok nmX1 hown hK hJ hP hS (by omega) f_o rfl 0 (by decide) (nT_m wf_X1_9) rfl rfl rfl (Nat.le_of_ble_eq_true rfl) dX1_add_60 (fun w11 H locs f_o hne12 hP hS => ?_)
        have f_o : w11 i = .inr (1, [.int (iI (((cnt : Nat) : Int) + 1)), .ref (ad (i + 1)), .ref (ad (i + 2)), .ref (ad (i + 3))]) := f_o
        have f_v := (hne12 (i + 1) (by omega)).trans f_v
        have f_f := (hne12 (i + 2) (by omega)).trans f_f
        have f_l := (hne12 (i + 3) (by omega)).trans f_l
        have hfr : ∀ j, j ≠ i → j ≠ (i + 1) → j ≠ (i + 2) → j ≠ (i + 3) → w11 j = w j := fun j a0 a1 a2 a3 => (hne12 j (by omega)).trans (hfr j a0 a1 a2 a3)
        refine lv_aload_n hx hb dX1_add_63 rfl (lv_at hl 0 rfl) ?_
        refine n_get hx hb hts u_X1 hown hK hP (by omega) f_o rfl 0 (by decide) (nT_m wf_X1_9) rfl dX1_add_64 ?_
        refine n_iconst hx hb dX1_add_67 ?_
        refine n_isub hx hb dX1_add_68 ?_
        refine n_iretP hQ hx hb hr hlocks hP hS dX1_add_69 ?_
        exact ⟨hfr, by omega, f_o, f_v, f_f, f_l⟩
      · skip
        exact absurd hc25 (by rw [hno]; decide)
set_option maxHeartbeats 4000000 in
set_option maxRecDepth 100000 in
theorem c_X2_add_no {l : Launch} {G : nG} {N : Nat} {ad : Nat → Nat} {w : Nat → va_E} {sz : Nat} (i n : Nat) (a b c d : Int) (hN : i + 4 < N) (hn : n = 20) (f_e : w i = .inr (2, [.int (iI ((n : Nat) : Int)), .ref (ad (i + 1)), .ref (ad (i + 2)), .ref (ad (i + 3)), .ref (ad (i + 4))])) : Met l yX2_add wsX2_add ({ frames := 0, cells := 0, slots := 0, locals := 0 }) (va_Pc [.ref (ad i), .int (iI a), .int (iI b), .int (iI c), .int (iI d)] (nB G N ad w sz)) (nRd (.int (iI (-1)))) 0 0 (fun _ => False) := by
  refine n_ent (cc := cX2_add) (maxL := 5) (ret := (some .int)) (by decide) rfl (Nat.le_of_ble_eq_true rfl) ?_
  intro p e s m below meth cd hx hb hr hml hlocks hts hown hnm hsz hP hK hI Q hQ ls hl
  have hown : s.vm.findClass RX2 = some m.cls := hown
  have hl : lv_has ls 5 [(0, .ref (ad i)), (1, .int (iI a)), (2, .int (iI b)), (3, .int (iI c)), (4, .int (iI d))] := hl
  refine lv_aload_n hx hb dX2_add_0 rfl (lv_at hl 0 rfl) ?_
  refine n_get hx hb hts u_X2 hown hK hP (by omega) f_e rfl 0 (by decide) (nT_m wf_X2_9) rfl dX2_add_1 ?_
  refine n_bipush hx hb dX2_add_4 (by decide) ?_
  refine n_icmp_lt (tgt := 11) hx hb dX2_add_6 (by decide) (by omega) (by omega) (fun hc6 => ?_) (fun hc6 => ?_)
  · skip
    exact absurd hc6 (by omega)
  · skip
    refine n_iconst hx hb dX2_add_9 ?_
    exact n_iretR hQ hx hb hr hlocks rfl dX2_add_10
set_option maxHeartbeats 4000000 in
set_option maxRecDepth 100000 in
theorem c_X2_add_yes {l : Launch} {G : nG} {N : Nat} {ad : Nat → Nat} {w : Nat → va_E} {sz : Nat} (i n : Nat) (a b c d : Nat) (pr sy co nu : Nat → Nat) (hN : i + 4 < N) (hn : n < 20) (f_e : w i = .inr (2, [.int (iI ((n : Nat) : Int)), .ref (ad (i + 1)), .ref (ad (i + 2)), .ref (ad (i + 3)), .ref (ad (i + 4))])) (f_ep : w (i + 1) = aI G 20 (fun q => (pr q : Int))) (f_es : w (i + 2) = aI G 20 (fun q => (sy q : Int))) (f_ec : w (i + 3) = aI G 20 (fun q => (co q : Int))) (f_en : w (i + 4) = aI G 20 (fun q => (nu q : Int))) : Met l yX2_add wsX2_add ({ frames := 0, cells := 0, slots := 0, locals := 0 }) (va_Pc [.ref (ad i), .int (iI ((a : Nat) : Int)), .int (iI ((b : Nat) : Int)), .int (iI ((c : Nat) : Int)), .int (iI ((d : Nat) : Int))] (nB G N ad w sz)) (nPi G N ad sz (fun r u => (∀ j, j ≠ i → j ≠ (i + 1) → j ≠ (i + 2) → j ≠ (i + 3) → j ≠ (i + 4) → u j = w j) ∧ (r = n + 1) ∧ (u i = .inr (2, [.int (iI ((n + 1 : Nat) : Int)), .ref (ad (i + 1)), .ref (ad (i + 2)), .ref (ad (i + 3)), .ref (ad (i + 4))])) ∧ (u (i + 1) = aI G 20 (fun q => ((va_up pr n a q : Nat) : Int))) ∧ (u (i + 2) = aI G 20 (fun q => ((va_up sy n b q : Nat) : Int))) ∧ (u (i + 3) = aI G 20 (fun q => ((va_up co n c q : Nat) : Int))) ∧ (u (i + 4) = aI G 20 (fun q => ((va_up nu n d q : Nat) : Int))))) 0 0 (nA N ad sz) := by
  refine n_ent (cc := cX2_add) (maxL := 5) (ret := (some .int)) (by decide) rfl (Nat.le_of_ble_eq_true rfl) ?_
  intro p e s m below meth cd hx hb hr hml hlocks hts hown hnm hsz hP hK hI Q hQ ls hl
  have hown : s.vm.findClass RX2 = some m.cls := hown
  subst hsz
  have hJ := hI.J s.heap.size
  have hS : va_S (nA N ad s.heap.size) s.heap s.heap [] := va_S.rf
  have hfr : ∀ j, j ≠ i → j ≠ (i + 1) → j ≠ (i + 2) → j ≠ (i + 3) → j ≠ (i + 4) → w j = w j := fun _ _ _ _ _ _ => rfl
  have hl : lv_has ls 5 [(0, .ref (ad i)), (1, .int (iI ((a : Nat) : Int))), (2, .int (iI ((b : Nat) : Int))), (3, .int (iI ((c : Nat) : Int))), (4, .int (iI ((d : Nat) : Int)))] := hl
  refine lv_aload_n hx hb dX2_add_0 rfl (lv_at hl 0 rfl) ?_
  refine n_get hx hb hts u_X2 hown hK hP (by omega) f_e rfl 0 (by decide) (nT_m wf_X2_9) rfl dX2_add_1 ?_
  refine n_bipush hx hb dX2_add_4 (by decide) ?_
  refine n_icmp_lt (tgt := 11) hx hb dX2_add_6 (by decide) (by omega) (by omega) (fun hc6 => ?_) (fun hc6 => ?_)
  · skip
    refine lv_aload_n hx hb dX2_add_11 rfl (lv_at hl 0 rfl) ?_
    refine n_get hx hb hts u_X2 hown hK hP (by omega) f_e rfl 1 (by decide) (nT_m wf_X2_15) rfl dX2_add_12 ?_
    refine lv_aload_n hx hb dX2_add_15 rfl (lv_at hl 0 rfl) ?_
    refine n_get hx hb hts u_X2 hown hK hP (by omega) f_e rfl 0 (by decide) (nT_m wf_X2_9) rfl dX2_add_16 ?_
    refine lv_iload_n hx hb dX2_add_19 rfl (lv_at hl 1 rfl) ?_
    refine n_iast hx hb hK hJ hP hS n (by omega) f_ep (by omega) (by omega) (by decide) dX2_add_20 (fun w1 H locs f_ep hne2 hP hS => ?_)
    have f_e := (hne2 i (by omega)).trans f_e
    have f_es := (hne2 (i + 2) (by omega)).trans f_es
    have f_ec := (hne2 (i + 3) (by omega)).trans f_ec
    have f_en := (hne2 (i + 4) (by omega)).trans f_en
    have hfr : ∀ j, j ≠ i → j ≠ (i + 1) → j ≠ (i + 2) → j ≠ (i + 3) → j ≠ (i + 4) → w1 j = w j := fun j a0 a1 a2 a3 a4 => (hne2 j (by omega)).trans (hfr j a0 a1 a2 a3 a4)
    have f_ep := f_ep.trans (congrArg (aI G 20) (upN pr n a))
    refine lv_aload_n hx hb dX2_add_21 rfl (lv_at hl 0 rfl) ?_
    refine n_get hx hb hts u_X2 hown hK hP (by omega) f_e rfl 2 (by decide) (nT_m wf_X2_19) rfl dX2_add_22 ?_
    refine lv_aload_n hx hb dX2_add_25 rfl (lv_at hl 0 rfl) ?_
    refine n_get hx hb hts u_X2 hown hK hP (by omega) f_e rfl 0 (by decide) (nT_m wf_X2_9) rfl dX2_add_26 ?_
    refine lv_iload_n hx hb dX2_add_29 rfl (lv_at hl 2 rfl) ?_
    refine n_iast hx hb hK hJ hP hS n (by omega) f_es (by omega) (by omega) (by decide) dX2_add_30 (fun w3 H locs f_es hne4 hP hS => ?_)
    have f_e := (hne4 i (by omega)).trans f_e
    have f_ep := (hne4 (i + 1) (by omega)).trans f_ep
    have f_ec := (hne4 (i + 3) (by omega)).trans f_ec
    have f_en := (hne4 (i + 4) (by omega)).trans f_en
    have hfr : ∀ j, j ≠ i → j ≠ (i + 1) → j ≠ (i + 2) → j ≠ (i + 3) → j ≠ (i + 4) → w3 j = w j := fun j a0 a1 a2 a3 a4 => (hne4 j (by omega)).trans (hfr j a0 a1 a2 a3 a4)
    have f_es := f_es.trans (congrArg (aI G 20) (upN sy n b))
    refine lv_aload_n hx hb dX2_add_31 rfl (lv_at hl 0 rfl) ?_
    refine n_get hx hb hts u_X2 hown hK hP (by omega) f_e rfl 3 (by decide) (nT_m wf_X2_22) rfl dX2_add_32 ?_
    refine lv_aload_n hx hb dX2_add_35 rfl (lv_at hl 0 rfl) ?_
    refine n_get hx hb hts u_X2 hown hK hP (by omega) f_e rfl 0 (by decide) (nT_m wf_X2_9) rfl dX2_add_36 ?_
    refine lv_iload_n hx hb dX2_add_39 rfl (lv_at hl 3 rfl) ?_
    refine n_iast hx hb hK hJ hP hS n (by omega) f_ec (by omega) (by omega) (by decide) dX2_add_40 (fun w5 H locs f_ec hne6 hP hS => ?_)
    have f_e := (hne6 i (by omega)).trans f_e
    have f_ep := (hne6 (i + 1) (by omega)).trans f_ep
    have f_es := (hne6 (i + 2) (by omega)).trans f_es
    have f_en := (hne6 (i + 4) (by omega)).trans f_en
    have hfr : ∀ j, j ≠ i → j ≠ (i + 1) → j ≠ (i + 2) → j ≠ (i + 3) → j ≠ (i + 4) → w5 j = w j := fun j a0 a1 a2 a3 a4 => (hne6 j (by omega)).trans (hfr j a0 a1 a2 a3 a4)
    have f_ec := f_ec.trans (congrArg (aI G 20) (upN co n c))
    refine lv_aload_n hx hb dX2_add_41 rfl (lv_at hl 0 rfl) ?_
    refine n_get hx hb hts u_X2 hown hK hP (by omega) f_e rfl 4 (by decide) (nT_m wf_X2_25) rfl dX2_add_42 ?_
    refine lv_aload_n hx hb dX2_add_45 rfl (lv_at hl 0 rfl) ?_
    refine n_get hx hb hts u_X2 hown hK hP (by omega) f_e rfl 0 (by decide) (nT_m wf_X2_9) rfl dX2_add_46 ?_
    refine lv_iload hx hb dX2_add_49 (lv_at hl 4 rfl) ?_
    refine n_iast hx hb hK hJ hP hS n (by omega) f_en (by omega) (by omega) (by decide) dX2_add_51 (fun w7 H locs f_en hne8 hP hS => ?_)
    have f_e := (hne8 i (by omega)).trans f_e
    have f_ep := (hne8 (i + 1) (by omega)).trans f_ep
    have f_es := (hne8 (i + 2) (by omega)).trans f_es
    have f_ec := (hne8 (i + 3) (by omega)).trans f_ec
    have hfr : ∀ j, j ≠ i → j ≠ (i + 1) → j ≠ (i + 2) → j ≠ (i + 3) → j ≠ (i + 4) → w7 j = w j := fun j a0 a1 a2 a3 a4 => (hne8 j (by omega)).trans (hfr j a0 a1 a2 a3 a4)
    have f_en := f_en.trans (congrArg (aI G 20) (upN nu n d))
    refine lv_aload_n hx hb dX2_add_52 rfl (lv_at hl 0 rfl) ?_
    refine lv_dup hx hb dX2_add_53 rfl ?_
    refine n_get hx hb hts u_X2 hown hK hP (by omega) f_e rfl 0 (by decide) (nT_m wf_X2_9) rfl dX2_add_54 ?_
    refine n_iconst hx hb dX2_add_57 ?_
    refine n_iadd hx hb dX2_add_58 ?_
    refine n_put hx hb hts u_X2 tyX2 tyX2_ok nmX2 hown hK hJ hP hS (by omega) f_e rfl 0 (by decide) (nT_m wf_X2_9) rfl rfl rfl (Nat.le_of_ble_eq_true rfl) dX2_add_59 (fun w9 H locs f_e hne10 hP hS => ?_)
    have f_e : w9 i = .inr (2, [.int (iI (((n : Nat) : Int) + 1)), .ref (ad (i + 1)), .ref (ad (i + 2)), .ref (ad (i + 3)), .ref (ad (i + 4))]) := f_e
    have f_ep := (hne10 (i + 1) (by omega)).trans f_ep
    have f_es := (hne10 (i + 2) (by omega)).trans f_es
    have f_ec := (hne10 (i + 3) (by omega)).trans f_ec
    have f_en := (hne10 (i + 4) (by omega)).trans f_en
    have hfr : ∀ j, j ≠ i → j ≠ (i + 1) → j ≠ (i + 2) → j ≠ (i + 3) → j ≠ (i + 4) → w9 j = w j := fun j a0 a1 a2 a3 a4 => (hne10 j (by omega)).trans (hfr j a0 a1 a2 a3 a4)
    refine lv_aload_n hx hb dX2_add_62 rfl (lv_at hl 0 rfl) ?_
    refine n_get hx hb hts u_X2 hown hK hP (by omega) f_e rfl 0 (by decide) (nT_m wf_X2_9) rfl dX2_add_63 ?_
    refine n_iretP hQ hx hb hr hlocks hP hS dX2_add_66 ?_
    exact ⟨hfr, by omega, f_e, f_ep, f_es, f_ec, f_en⟩
  · skip
    exact absurd hc6 (by omega)
set_option maxHeartbeats 4000000 in
set_option maxRecDepth 100000 in
theorem c_X3_isGood {l : Launch} {G : nG} {N : Nat} {ad : Nat → Nat} {w : Nat → va_E} {sz : Nat} (i gn : Nat) (z : Int) (hN : i + 2 < N) (hc : gn ≤ 14) (hz : -2147483648 ≤ z ∧ z < 2147483648) (f_g : w i = .inr (3, [.int (iI ((gn : Nat) : Int)), .ref (ad (i + 1)), .ref (ad (i + 2))])) : Met l yX3_isGood wsX3_isGood ({ frames := 1, cells := 0, slots := 0, locals := 22 }) (va_Pc [.ref (ad i), .int (iI z)] (nB G N ad w sz)) (nRd (.int (iI (bI (0 ≤ z ∧ z < gn))))) 0 0 (fun _ => False) := by
  refine n_ent (cc := cX3_isGood) (maxL := 2) (ret := (some .boolean)) (by decide) rfl (Nat.le_of_ble_eq_true rfl) ?_
  intro p e s m below meth cd hx hb hr hml hlocks hts hown hnm hsz hP hK hI Q hQ ls hl
  have hown : s.vm.findClass RX3 = some m.cls := hown
  have hl : lv_has ls 2 [(0, .ref (ad i)), (1, .int (iI z))] := hl
  refine n_iconst hx hb dX3_isGood_0 ?_
  refine lv_iload_n hx hb dX3_isGood_1 rfl (lv_at hl 1 rfl) ?_
  refine lv_aload_n hx hb dX3_isGood_2 rfl (lv_at hl 0 rfl) ?_
  refine n_get hx hb hts u_X3 hown hK hP (by omega) f_g rfl 0 (by decide) (nT_m wf_X3_9) rfl dX3_isGood_3 ?_
  refine n_iconst hx hb dX3_isGood_6 ?_
  refine n_isub hx hb dX3_isGood_7 ?_
  refine n_rdF (va_runSN (As := [.int (iI 0), .int (iI z), .int (iI (((gn : Nat) : Int) - 1))]) (rest := []) ⟨hx, hb, hml, hown, hts⟩ (c_X6_within 0 z (((gn : Nat) : Int) - 1) (by omega) (by omega) (by omega)) ⟨va_cnB 3 hts (nT_N wc_X6_within) rfl rfl rfl (hK.2 _ (List.mem_of_getElem? (i := 5) rfl)) (hts _ (nT_m wn_X6)) (by decide +kernel) ⟨Nat.le_of_ble_eq_true rfl, Nat.le_of_ble_eq_true rfl⟩, hts _ (nT_m wt_X6_within), trivial⟩ preEq rfl rfl hl.1 rfl (lv_room (Nat.le_of_ble_eq_true rfl)) dX3_isGood_8 ⟨Nat.zero_le _, Nat.zero_le _⟩) ?_
  exact n_zretR hQ hx hb hr hlocks (bI_c (by omega)) dX3_isGood_11
set_option maxHeartbeats 4000000 in
set_option maxRecDepth 100000 in
theorem c_X3_add_no {l : Launch} {G : nG} {N : Nat} {ad : Nat → Nat} {w : Nat → va_E} {sz : Nat} (i gn : Nat) (a b : Int) (hN : i + 2 < N) (hc : gn ≤ 14) (ha : -2147483648 ≤ a ∧ a < 2147483648) (hb_ : -2147483648 ≤ b ∧ b < 2147483648) (hno : gn = 14 ∨ ¬ (1 ≤ a ∧ a ≤ 10000) ∨ ¬ (0 ≤ b ∧ b ≤ 100)) (f_g : w i = .inr (3, [.int (iI ((gn : Nat) : Int)), .ref (ad (i + 1)), .ref (ad (i + 2))])) : Met l yX3_add wsX3_add ({ frames := 1, cells := 0, slots := 0, locals := 22 }) (va_Pc [.ref (ad i), .int (iI a), .int (iI b)] (nB G N ad w sz)) (nRd (.int (iI (-1)))) 0 0 (fun _ => False) := by
  refine n_ent (cc := cX3_add) (maxL := 3) (ret := (some .int)) (by decide) rfl (Nat.le_of_ble_eq_true rfl) ?_
  intro p e s m below meth cd hx hb hr hml hlocks hts hown hnm hsz hP hK hI Q hQ ls hl
  have hown : s.vm.findClass RX3 = some m.cls := hown
  have hl : lv_has ls 3 [(0, .ref (ad i)), (1, .int (iI a)), (2, .int (iI b))] := hl
  refine lv_aload_n hx hb dX3_add_0 rfl (lv_at hl 0 rfl) ?_
  refine n_get hx hb hts u_X3 hown hK hP (by omega) f_g rfl 0 (by decide) (nT_m wf_X3_9) rfl dX3_add_1 ?_
  refine n_bipush hx hb dX3_add_4 (by decide) ?_
  refine n_icmp_ge (tgt := 30) hx hb dX3_add_6 (by decide) (by omega) (by omega) (fun hc6 => ?_) (fun hc6 => ?_)
  · skip
    refine n_iconst hx hb dX3_add_30 ?_
    exact n_iretR hQ hx hb hr hlocks rfl dX3_add_31
  · skip
    refine n_iconst hx hb dX3_add_9 ?_
    refine lv_iload_n hx hb dX3_add_10 rfl (lv_at hl 1 rfl) ?_
    refine n_sipush hx hb dX3_add_11 (by decide) ?_
    refine n_rdF (va_runSN (As := [.int (iI 1), .int (iI a), .int (iI 10000)]) (rest := []) ⟨hx, hb, hml, hown, hts⟩ (c_X6_within 1 a 10000 (by omega) (by omega) (by omega)) ⟨va_cnB 3 hts (nT_N wc_X6_within) rfl rfl rfl (hK.2 _ (List.mem_of_getElem? (i := 5) rfl)) (hts _ (nT_m wn_X6)) (by decide +kernel) ⟨Nat.le_of_ble_eq_true rfl, Nat.le_of_ble_eq_true rfl⟩, hts _ (nT_m wt_X6_within), trivial⟩ preEq rfl rfl hl.1 rfl (lv_room (Nat.le_of_ble_eq_true rfl)) dX3_add_14 ⟨Nat.zero_le _, Nat.zero_le _⟩) ?_
    refine n_if_eqB (tgt := 30) hx hb dX3_add_17 (by decide) (fun hc17 => ?_) (fun hc17 => ?_)
    · skip
      refine n_iconst hx hb dX3_add_30 ?_
      exact n_iretR hQ hx hb hr hlocks rfl dX3_add_31
    · skip
      refine n_iconst hx hb dX3_add_20 ?_
      refine lv_iload_n hx hb dX3_add_21 rfl (lv_at hl 2 rfl) ?_
      refine n_bipush hx hb dX3_add_22 (by decide) ?_
      refine n_rdF (va_runSN (As := [.int (iI 0), .int (iI b), .int (iI 100)]) (rest := []) ⟨hx, hb, hml, hown, hts⟩ (c_X6_within 0 b 100 (by omega) (by omega) (by omega)) ⟨va_cnB 3 hts (nT_N wc_X6_within) rfl rfl rfl (hK.2 _ (List.mem_of_getElem? (i := 5) rfl)) (hts _ (nT_m wn_X6)) (by decide +kernel) ⟨Nat.le_of_ble_eq_true rfl, Nat.le_of_ble_eq_true rfl⟩, hts _ (nT_m wt_X6_within), trivial⟩ preEq rfl rfl hl.1 rfl (lv_room (Nat.le_of_ble_eq_true rfl)) dX3_add_24 ⟨Nat.zero_le _, Nat.zero_le _⟩) ?_
      refine n_if_neB (tgt := 32) hx hb dX3_add_27 (by decide) (fun hc27 => ?_) (fun hc27 => ?_)
      · skip
        omega
      · skip
        refine n_iconst hx hb dX3_add_30 ?_
        exact n_iretR hQ hx hb hr hlocks rfl dX3_add_31
set_option maxHeartbeats 4000000 in
set_option maxRecDepth 100000 in
theorem c_X3_add_yes {l : Launch} {G : nG} {N : Nat} {ad : Nat → Nat} {w : Nat → va_E} {sz : Nat} (i gn : Nat) (gp gt : Nat → Nat) (a b : Nat) (hN : i + 2 < N) (hc : gn < 14) (ha : 1 ≤ a ∧ a ≤ 10000) (hb_ : b ≤ 100) (hgp : ∀ k, gp k ≤ 10000) (hgt : ∀ k, gt k ≤ 100) (f_g : w i = .inr (3, [.int (iI ((gn : Nat) : Int)), .ref (ad (i + 1)), .ref (ad (i + 2))])) (f_gp : w (i + 1) = aI G 14 (fun q => (gp q : Int))) (f_gt : w (i + 2) = aI G 14 (fun q => (gt q : Int))) : Met l yX3_add wsX3_add ({ frames := 1, cells := 0, slots := 0, locals := 22 }) (va_Pc [.ref (ad i), .int (iI ((a : Nat) : Int)), .int (iI ((b : Nat) : Int))] (nB G N ad w sz)) (nPi G N ad sz (fun r u => (∀ j, j ≠ i → j ≠ (i + 1) → j ≠ (i + 2) → u j = w j) ∧ (r = gn) ∧ (u i = .inr (3, [.int (iI ((gn + 1 : Nat) : Int)), .ref (ad (i + 1)), .ref (ad (i + 2))])) ∧ (u (i + 1) = aI G 14 (fun q => ((va_up gp gn a q : Nat) : Int))) ∧ (u (i + 2) = aI G 14 (fun q => ((va_up gt gn b q : Nat) : Int))))) 0 0 (nA N ad sz) := by
  refine n_ent (cc := cX3_add) (maxL := 3) (ret := (some .int)) (by decide) rfl (Nat.le_of_ble_eq_true rfl) ?_
  intro p e s m below meth cd hx hb hr hml hlocks hts hown hnm hsz hP hK hI Q hQ ls hl
  have hown : s.vm.findClass RX3 = some m.cls := hown
  subst hsz
  have hJ := hI.J s.heap.size
  have hS : va_S (nA N ad s.heap.size) s.heap s.heap [] := va_S.rf
  have hfr : ∀ j, j ≠ i → j ≠ (i + 1) → j ≠ (i + 2) → w j = w j := fun _ _ _ _ => rfl
  have hl : lv_has ls 3 [(0, .ref (ad i)), (1, .int (iI ((a : Nat) : Int))), (2, .int (iI ((b : Nat) : Int)))] := hl
  refine lv_aload_n hx hb dX3_add_0 rfl (lv_at hl 0 rfl) ?_
  refine n_get hx hb hts u_X3 hown hK hP (by omega) f_g rfl 0 (by decide) (nT_m wf_X3_9) rfl dX3_add_1 ?_
  refine n_bipush hx hb dX3_add_4 (by decide) ?_
  refine n_icmp_ge (tgt := 30) hx hb dX3_add_6 (by decide) (by omega) (by omega) (fun hc6 => ?_) (fun hc6 => ?_)
  · skip
    exact absurd hc6 (by omega)
  · skip
    refine n_iconst hx hb dX3_add_9 ?_
    refine lv_iload_n hx hb dX3_add_10 rfl (lv_at hl 1 rfl) ?_
    refine n_sipush hx hb dX3_add_11 (by decide) ?_
    refine n_rdF (va_runSN (As := [.int (iI 1), .int (iI ((a : Nat) : Int)), .int (iI 10000)]) (rest := []) ⟨hx, hb, hml, hown, hts⟩ (c_X6_within 1 ((a : Nat) : Int) 10000 (by omega) (by omega) (by omega)) ⟨va_cnB 3 hts (nT_N wc_X6_within) rfl rfl rfl (hK.2 _ (List.mem_of_getElem? (i := 5) rfl)) (hts _ (nT_m wn_X6)) (by decide +kernel) ⟨Nat.le_of_ble_eq_true rfl, Nat.le_of_ble_eq_true rfl⟩, hts _ (nT_m wt_X6_within), trivial⟩ preEq rfl rfl hl.1 rfl (lv_room (Nat.le_of_ble_eq_true rfl)) dX3_add_14 ⟨Nat.zero_le _, Nat.zero_le _⟩) ?_
    refine n_if_eqB (tgt := 30) hx hb dX3_add_17 (by decide) (fun hc17 => ?_) (fun hc17 => ?_)
    · skip
      exact absurd hc17 (by omega)
    · skip
      refine n_iconst hx hb dX3_add_20 ?_
      refine lv_iload_n hx hb dX3_add_21 rfl (lv_at hl 2 rfl) ?_
      refine n_bipush hx hb dX3_add_22 (by decide) ?_
      refine n_rdF (va_runSN (As := [.int (iI 0), .int (iI ((b : Nat) : Int)), .int (iI 100)]) (rest := []) ⟨hx, hb, hml, hown, hts⟩ (c_X6_within 0 ((b : Nat) : Int) 100 (by omega) (by omega) (by omega)) ⟨va_cnB 3 hts (nT_N wc_X6_within) rfl rfl rfl (hK.2 _ (List.mem_of_getElem? (i := 5) rfl)) (hts _ (nT_m wn_X6)) (by decide +kernel) ⟨Nat.le_of_ble_eq_true rfl, Nat.le_of_ble_eq_true rfl⟩, hts _ (nT_m wt_X6_within), trivial⟩ preEq rfl rfl hl.1 rfl (lv_room (Nat.le_of_ble_eq_true rfl)) dX3_add_24 ⟨Nat.zero_le _, Nat.zero_le _⟩) ?_
      refine n_if_neB (tgt := 32) hx hb dX3_add_27 (by decide) (fun hc27 => ?_) (fun hc27 => ?_)
      · skip
        refine lv_aload_n hx hb dX3_add_32 rfl (lv_at hl 0 rfl) ?_
        refine n_get hx hb hts u_X3 hown hK hP (by omega) f_g rfl 1 (by decide) (nT_m wf_X3_15) rfl dX3_add_33 ?_
        refine lv_aload_n hx hb dX3_add_36 rfl (lv_at hl 0 rfl) ?_
        refine n_get hx hb hts u_X3 hown hK hP (by omega) f_g rfl 0 (by decide) (nT_m wf_X3_9) rfl dX3_add_37 ?_
        refine lv_iload_n hx hb dX3_add_40 rfl (lv_at hl 1 rfl) ?_
        refine n_iast hx hb hK hJ hP hS gn (by omega) f_gp (by omega) (by omega) (by decide) dX3_add_41 (fun w1 H locs f_gp hne2 hP hS => ?_)
        have f_g := (hne2 i (by omega)).trans f_g
        have f_gt := (hne2 (i + 2) (by omega)).trans f_gt
        have hfr : ∀ j, j ≠ i → j ≠ (i + 1) → j ≠ (i + 2) → w1 j = w j := fun j a0 a1 a2 => (hne2 j (by omega)).trans (hfr j a0 a1 a2)
        have f_gp := f_gp.trans (congrArg (aI G 14) (upN gp gn a))
        refine lv_aload_n hx hb dX3_add_42 rfl (lv_at hl 0 rfl) ?_
        refine n_get hx hb hts u_X3 hown hK hP (by omega) f_g rfl 2 (by decide) (nT_m wf_X3_19) rfl dX3_add_43 ?_
        refine lv_aload_n hx hb dX3_add_46 rfl (lv_at hl 0 rfl) ?_
        refine n_get hx hb hts u_X3 hown hK hP (by omega) f_g rfl 0 (by decide) (nT_m wf_X3_9) rfl dX3_add_47 ?_
        refine lv_iload_n hx hb dX3_add_50 rfl (lv_at hl 2 rfl) ?_
        refine n_iast hx hb hK hJ hP hS gn (by omega) f_gt (by omega) (by omega) (by decide) dX3_add_51 (fun w3 H locs f_gt hne4 hP hS => ?_)
        have f_g := (hne4 i (by omega)).trans f_g
        have f_gp := (hne4 (i + 1) (by omega)).trans f_gp
        have hfr : ∀ j, j ≠ i → j ≠ (i + 1) → j ≠ (i + 2) → w3 j = w j := fun j a0 a1 a2 => (hne4 j (by omega)).trans (hfr j a0 a1 a2)
        have f_gt := f_gt.trans (congrArg (aI G 14) (upN gt gn b))
        refine lv_aload_n hx hb dX3_add_52 rfl (lv_at hl 0 rfl) ?_
        refine lv_dup hx hb dX3_add_53 rfl ?_
        refine n_get hx hb hts u_X3 hown hK hP (by omega) f_g rfl 0 (by decide) (nT_m wf_X3_9) rfl dX3_add_54 ?_
        refine n_iconst hx hb dX3_add_57 ?_
        refine n_iadd hx hb dX3_add_58 ?_
        refine n_put hx hb hts u_X3 tyX3 tyX3_ok nmX3 hown hK hJ hP hS (by omega) f_g rfl 0 (by decide) (nT_m wf_X3_9) rfl rfl rfl (Nat.le_of_ble_eq_true rfl) dX3_add_59 (fun w5 H locs f_g hne6 hP hS => ?_)
        have f_g : w5 i = .inr (3, [.int (iI (((gn : Nat) : Int) + 1)), .ref (ad (i + 1)), .ref (ad (i + 2))]) := f_g
        have f_gp := (hne6 (i + 1) (by omega)).trans f_gp
        have f_gt := (hne6 (i + 2) (by omega)).trans f_gt
        have hfr : ∀ j, j ≠ i → j ≠ (i + 1) → j ≠ (i + 2) → w5 j = w j := fun j a0 a1 a2 => (hne6 j (by omega)).trans (hfr j a0 a1 a2)
        refine lv_aload_n hx hb dX3_add_62 rfl (lv_at hl 0 rfl) ?_
        refine n_get hx hb hts u_X3 hown hK hP (by omega) f_g rfl 0 (by decide) (nT_m wf_X3_9) rfl dX3_add_63 ?_
        refine n_iconst hx hb dX3_add_66 ?_
        refine n_isub hx hb dX3_add_67 ?_
        refine n_iretP hQ hx hb hr hlocks hP hS dX3_add_68 ?_
        exact ⟨hfr, by omega, f_g, f_gp, f_gt⟩
      · skip
        exact absurd hc27 (by omega)
set_option maxHeartbeats 4000000 in
set_option maxRecDepth 100000 in
theorem c_X5_countsOf {l : Launch} {G : nG} {N : Nat} {ad : Nat → Nat} {w : Nat → va_E} {sz : Nat} (t sa sc tk sy : Nat) (hN : t + 8 < N) (hs : sy < 2) (f_t : w t = .inr (5, [.ref (ad (t + 1)), .ref (ad (t + 2)), .ref (ad (t + 3)), .ref (ad (t + 4)), .int (iI ((sa : Nat) : Int)), .long (jI ((sc : Nat) : Int)), .long (jI ((tk : Nat) : Int))])) : Met l yX5_countsOf wsX5_countsOf ({ frames := 0, cells := 0, slots := 0, locals := 0 }) (va_Pc [.ref (ad t), .int (iI ((sy : Nat) : Int))] (nB G N ad w sz)) (nRd (.ref (ad (t + 1 + sy)))) 0 0 (fun _ => False) := by
  refine n_ent (cc := cX5_countsOf) (maxL := 2) (ret := (some (.array .int))) (by decide) rfl (Nat.le_of_ble_eq_true rfl) ?_
  intro p e s m below meth cd hx hb hr hml hlocks hts hown hnm hsz hP hK hI Q hQ ls hl
  have hown : s.vm.findClass RX5 = some m.cls := hown
  have hl : lv_has ls 2 [(0, .ref (ad t)), (1, .int (iI ((sy : Nat) : Int)))] := hl
  refine lv_iload_n hx hb dX5_countsOf_0 rfl (lv_at hl 1 rfl) ?_
  refine n_if_ne (tgt := 11) hx hb dX5_countsOf_1 (by decide) (by omega) (fun hc1 => ?_) (fun hc1 => ?_)
  · skip
    refine lv_aload_n hx hb dX5_countsOf_11 rfl (lv_at hl 0 rfl) ?_
    refine n_get hx hb hts u_X5 hown hK hP (by omega) f_t rfl 1 (by decide) (nT_m wf_X5_15) rfl dX5_countsOf_12 ?_
    exact n_aretR hQ hx hb hr (Or.inr ⟨_, rfl⟩) hlocks (Or.inr ⟨_, rfl⟩) (by rw [show t + 1 + sy = (t + 2) by omega]) dX5_countsOf_15
  · skip
    refine lv_aload_n hx hb dX5_countsOf_4 rfl (lv_at hl 0 rfl) ?_
    refine n_get hx hb hts u_X5 hown hK hP (by omega) f_t rfl 0 (by decide) (nT_m wf_X5_9) rfl dX5_countsOf_5 ?_
    refine lv_goto (tgt := 15) hx hb dX5_countsOf_8 (by decide) ?_
    exact n_aretR hQ hx hb hr (Or.inr ⟨_, rfl⟩) hlocks (Or.inr ⟨_, rfl⟩) (by rw [show t + 1 + sy = (t + 1) by omega]) dX5_countsOf_15
end
section

theorem iI_and1 (k : Nat) (h : k < 2147483648) : iI (k : Int) &&& iI 1 = iI ((k % 2 : Nat) : Int) := by
  rw [← iI_nat, ← iI_nat]
  exact pk_andN (n := k) (by omega) (m := iI 1) 1 (by decide)
theorem n_iand1 {p : Program} {l : Launch} {e : Env} {R : Room} {s : State} {m : MethodId} {args : Array Value} {below : List Frame} {meth : Method} {c : Code} {H : Heap} {locs : List Loc} {cells slots : Nat} {Q : State → Prop} {cc : ByteArray} {pc : Nat} {ls : Array Slot} {rest : List Value} (hx : p.tables.exec = Jvm.exec) (hb : c.code = cc) (k : Nat) {z : Int} (hdg : decode cc pc = .ok (.iand, 1)) (hz : z = (k : Int)) (hk : k < 2147483648) (kk : W p l e R s m args below meth c H locs cells slots Q (F0 m (pc + 1) ls (.int (iI ((k % 2 : Nat) : Int)) :: rest))) : W p l e R s m args below meth c H locs cells slots Q (F0 m pc ls (.int (iI 1) :: .int (iI z) :: rest)) := by
  subst hz
  exact lv_iand hx hb hdg (by rw [iI_and1 k hk]; exact kk)
theorem nmodN (a b : Nat) : ((a : Nat) : Int) - ((a / b : Nat) : Int) * ((b : Nat) : Int) = ((a % b : Nat) : Int) := nmodI a b
def subF (fr ch : Nat → Nat) (q : Nat) : Nat → Nat := fun k => if k < q then fr k - ch k else fr k
def cpF (la ch : Nat → Nat) (q : Nat) : Nat → Nat := fun k => if k < q then ch k else la k
theorem subF_0 (fr ch : Nat → Nat) : subF fr ch 0 = fr := by
  funext k
  unfold subF
  rw [if_neg (Nat.not_lt_zero k)]
theorem cpF_0 (fr ch : Nat → Nat) : cpF fr ch 0 = fr := by
  funext k
  unfold cpF
  rw [if_neg (Nat.not_lt_zero k)]
theorem subF_at {fr ch : Nat → Nat} {q k : Nat} (h : q ≤ k) : subF fr ch q k = fr k := by
  unfold subF
  rw [if_neg (by omega)]
theorem subF_s (fr ch : Nat → Nat) (q : Nat) (h : ch q ≤ fr q) : va_up (fun k => ((subF fr ch q k : Nat) : Int)) q (((subF fr ch q q : Nat) : Int) - (ch q : Int)) = fun k => ((subF fr ch (q + 1) k : Nat) : Int) := by
  funext k
  unfold va_up subF
  by_cases e1 : k = q
  · subst e1
    rw [if_pos rfl, if_neg (by omega), if_pos (by omega)]
    omega
  · rw [if_neg e1]
    dsimp only
    by_cases h2 : k < q
    · rw [if_pos h2, if_pos (by omega)]
    · rw [if_neg h2, if_neg (by omega)]
theorem cpF_s (la ch : Nat → Nat) (q : Nat) : va_up (fun k => ((cpF la ch q k : Nat) : Int)) q (ch q : Int) = fun k => ((cpF la ch (q + 1) k : Nat) : Int) := by
  funext k
  unfold va_up cpF
  by_cases e1 : k = q
  · subst e1
    rw [if_pos rfl, if_pos (by omega)]
  · rw [if_neg e1]
    dsimp only
    by_cases h2 : k < q
    · rw [if_pos h2, if_pos (by omega)]
    · rw [if_neg h2, if_neg (by omega)]
def anyS (sa : Nat → Nat) : Nat → Bool
  | 0 => false
  | n + 1 => anyS sa n || decide (0 < sa n)
theorem anyS_up {sa : Nat → Nat} {a : Nat} (h : anyS sa a = true) : ∀ b, anyS sa (a + b) = true
  | 0 => h
  | b + 1 => by
    show (anyS sa (a + b) || _) = true
    rw [anyS_up h b]
    rfl
theorem anyS_le {sa : Nat → Nat} {a b : Nat} (h : anyS sa a = true) (hab : a ≤ b) : anyS sa b = true := by
  have := anyS_up h (b - a)
  rwa [show a + (b - a) = b by omega] at this
theorem anyS_t {sa : Nat → Nat} {n : Nat} (h : 0 < sa n) : anyS sa (n + 1) = true := by
  show (anyS sa n || decide _) = true
  simp [h]
theorem anyS_f {sa : Nat → Nat} {n : Nat} (h0 : anyS sa n = false) (h : ¬ 0 < sa n) : anyS sa (n + 1) = false := by
  show (anyS sa n || decide _) = false
  simp [h, h0]
def sumP (ct val : Nat → Nat) : Nat → Nat
  | 0 => 0
  | n + 1 => sumP ct val n + ct n * val n
def nUp (ru st ov sp : Nat) : Bool := if ru = 1 then decide (0 < ov) else if ru = 2 then decide (sp ≤ 2 * ov) else if ru = 3 then decide (sp < 2 * ov ∨ (2 * ov = sp ∧ st % 2 = 1)) else false
def nPr (pa sp stp ru : Nat) : Nat := (if nUp ru (pa / sp) (pa % sp) sp = true then pa / sp + 1 else pa / sp) * stp
theorem nPr_rng {pa sp stp ru : Nat} (h1 : pa ≤ 1000000) (h2 : stp ≤ 100) : nPr pa sp stp ru ≤ 100000100 := by
  unfold nPr
  have h3 : pa / sp ≤ pa := Nat.div_le_self _ _
  split
  · exact Nat.le_trans (Nat.mul_le_mul (show pa / sp + 1 ≤ 1000001 by omega) h2) (by decide)
  · exact Nat.le_trans (Nat.mul_le_mul (show pa / sp ≤ 1000001 by omega) h2) (by decide)
def ldG (gn : Nat) (gp gt : Nat → Nat) (z : Int) : Int := if 10 ≤ z ∧ z < 10 + (gn : Int) then (gp (z - 10).toNat : Int) else if 30 ≤ z ∧ z < 30 + (gn : Int) then (gt (z - 30).toNat : Int) else -1
def ldD (gn tn ra rb stp : Nat) (gp gt : Nat → Nat) (z : Int) : Int := if z = 0 then (gn : Int) else if z = 1 then (tn : Int) else if z = 2 then (ra : Int) else if z = 3 then (rb : Int) else if z = 4 then (stp : Int) else ldG gn gp gt z
set_option maxHeartbeats 4000000 in
set_option maxRecDepth 100000 in
theorem c_X5_close {l : Launch} {G : nG} {N : Nat} {ad : Nat → Nat} {w : Nat → va_E} {sz : Nat} (t sa sc tk pr cu rw : Nat) (fr la ch : Nat → Nat) (hN : t + 8 < N) (hrw : rw < N ∧ (rw < t ∨ t + 8 < rw)) (hpr : pr ≤ 2000) (hcu : cu < 2147483648) (hch : ∀ k, k < 8 → ch k ≤ fr k) (f_t : w t = .inr (5, [.ref (ad (t + 1)), .ref (ad (t + 2)), .ref (ad (t + 3)), .ref (ad (t + 4)), .int (iI ((sa : Nat) : Int)), .long (jI ((sc : Nat) : Int)), .long (jI ((tk : Nat) : Int))])) (f_fr : w (t + 2) = aI G 8 (fun q => (fr q : Int))) (f_la : w (t + 3) = aI G 8 (fun q => (la q : Int))) (f_ch : w rw = aI G 8 (fun q => (ch q : Int))) : Met l yX5_close wsX5_close ({ frames := 0, cells := 0, slots := 0, locals := 0 }) (va_Pc [.ref (ad t), .int (iI ((pr : Nat) : Int)), .int (iI ((cu : Nat) : Int)), .ref (ad rw)] (nB G N ad w sz)) (nPv G N ad sz (fun u => (∀ j, j ≠ t → j ≠ (t + 2) → j ≠ (t + 3) → u j = w j) ∧ (u t = .inr (5, [.ref (ad (t + 1)), .ref (ad (t + 2)), .ref (ad (t + 3)), .ref (ad (t + 4)), .int (iI ((sa + 1 : Nat) : Int)), .long (jI ((sc + cu : Nat) : Int)), .long (jI ((tk + pr : Nat) : Int))])) ∧ (u (t + 2) = aI G 8 (fun q => ((subF fr ch 8 q : Nat) : Int))) ∧ (u (t + 3) = aI G 8 (fun q => ((cpF la ch 8 q : Nat) : Int))))) 0 0 (nA N ad sz) := by
  refine n_ent (cc := cX5_close) (maxL := 5) (ret := (none : Option Jvm.ClassFile.FieldType)) (by decide) rfl (Nat.le_of_ble_eq_true rfl) ?_
  intro p e s m below meth cd hx hb hr hml hlocks hts hown hnm hsz hP hK hI Q hQ ls hl
  have hown : s.vm.findClass RX5 = some m.cls := hown
  subst hsz
  have hJ := hI.J s.heap.size
  have hS : va_S (nA N ad s.heap.size) s.heap s.heap [] := va_S.rf
  have hfr : ∀ j, j ≠ t → j ≠ (t + 2) → j ≠ (t + 3) → w j = w j := fun _ _ _ _ => rfl
  have hl : lv_has ls 5 [(0, .ref (ad t)), (1, .int (iI ((pr : Nat) : Int))), (2, .int (iI ((cu : Nat) : Int))), (3, .ref (ad rw))] := hl
  refine n_iconst hx hb dX5_close_0 ?_
  refine lv_istore (lv' := [(4, .int (iI 0)), (0, .ref (ad t)), (1, .int (iI ((pr : Nat) : Int))), (2, .int (iI ((cu : Nat) : Int))), (3, .ref (ad rw))]) hx hb dX5_close_1 hl (by decide) rfl (fun ls hl => ?_)
  have lp1 : ∀ (fu : Nat), ∀ (q : Nat), ∀ (w2 : Nat → va_E) (H : Heap) (locs : List Loc), ∀ (ls : Array Slot), 8 - q < fu → q ≤ 8 → (∀ j, j ≠ t → j ≠ (t + 2) → j ≠ (t + 3) → w2 j = w j) → w2 t = .inr (5, [.ref (ad (t + 1)), .ref (ad (t + 2)), .ref (ad (t + 3)), .ref (ad (t + 4)), .int (iI ((sa : Nat) : Int)), .long (jI ((sc : Nat) : Int)), .long (jI ((tk : Nat) : Int))]) → w2 (t + 2) = aI G 8 (fun k => ((subF fr ch q k : Nat) : Int)) → w2 (t + 3) = aI G 8 (fun k => ((cpF la ch q k : Nat) : Int)) → w2 rw = aI G 8 (fun q => (ch q : Int)) → va_P G.1 vwCl (nL N ad w2) H → va_S (nA N ad s.heap.size) s.heap H locs → lv_has ls 5 [(0, .ref (ad t)), (1, .int (iI ((pr : Nat) : Int))), (2, .int (iI ((cu : Nat) : Int))), (3, .ref (ad rw)), (4, .int (iI ((q : Nat) : Int)))] → W p l e ({ frames := 0, cells := 0, slots := 0, locals := 0 } : Room) s m ([.ref (ad t), .int (iI ((pr : Nat) : Int)), .int (iI ((cu : Nat) : Int)), .ref (ad rw)] : List Value).toArray below meth cd H locs 0 0 Q (F0 m 3 ls []) := by
    intro fu
    induction fu with
    | zero =>
      intro q w2 H locs ls hfu hq hfr f_t f_fr f_la f_ch hP hS hl
      exact absurd hfu (Nat.not_lt_zero _)
    | succ fu ih3 =>
      intro q w2 H locs ls hfu hq hfr f_t f_fr f_la f_ch hP hS hl
      refine lv_iload hx hb dX5_close_3 (lv_at hl 4 rfl) ?_
      refine n_bipush hx hb dX5_close_5 (by decide) ?_
      refine n_icmp_ge (tgt := 41) hx hb dX5_close_7 (by decide) (by omega) (by omega) (fun hc7 => ?_) (fun hc7 => ?_)
      · skip
        obtain rfl : q = 8 := by omega
        refine lv_aload_n hx hb dX5_close_41 rfl (lv_at hl 0 rfl) ?_
        refine lv_dup hx hb dX5_close_42 rfl ?_
        refine n_get hx hb hts u_X5 hown hK hP (by omega) f_t rfl 4 (by decide) (nT_m wf_X5_28) rfl dX5_close_43 ?_
        refine n_iconst hx hb dX5_close_46 ?_
        refine n_iadd hx hb dX5_close_47 ?_
        refine n_put hx hb hts u_X5 tyX5 tyX5_ok nmX5 hown hK hJ hP hS (by omega) f_t rfl 4 (by decide) (nT_m wf_X5_28) rfl rfl rfl (Nat.le_of_ble_eq_true rfl) dX5_close_48 (fun w4 H locs f_t hne5 hP hS => ?_)
        have f_t : w4 t = .inr (5, [.ref (ad (t + 1)), .ref (ad (t + 2)), .ref (ad (t + 3)), .ref (ad (t + 4)), .int (iI (((sa : Nat) : Int) + 1)), .long (jI ((sc : Nat) : Int)), .long (jI ((tk : Nat) : Int))]) := f_t
        have f_fr := (hne5 (t + 2) (by omega)).trans f_fr
        have f_la := (hne5 (t + 3) (by omega)).trans f_la
        have f_ch := (hne5 rw (by omega)).trans f_ch
        have hfr : ∀ j, j ≠ t → j ≠ (t + 2) → j ≠ (t + 3) → w4 j = w j := fun j a0 a1 a2 => (hne5 j (by omega)).trans (hfr j a0 a1 a2)
        refine lv_aload_n hx hb dX5_close_51 rfl (lv_at hl 0 rfl) ?_
        refine lv_dup hx hb dX5_close_52 rfl ?_
        refine n_get hx hb hts u_X5 hown hK hP (by omega) f_t rfl 5 (by decide) (nT_m wf_X5_32) rfl dX5_close_53 ?_
        refine lv_iload_n hx hb dX5_close_56 rfl (lv_at hl 2 rfl) ?_
        refine n_i2l hx hb dX5_close_57 (by omega) ?_
        refine n_ladd hx hb dX5_close_58 ?_
        refine n_put hx hb hts u_X5 tyX5 tyX5_ok nmX5 hown hK hJ hP hS (by omega) f_t rfl 5 (by decide) (nT_m wf_X5_32) rfl rfl rfl (Nat.le_of_ble_eq_true rfl) dX5_close_59 (fun w6 H locs f_t hne7 hP hS => ?_)
        have f_t : w6 t = .inr (5, [.ref (ad (t + 1)), .ref (ad (t + 2)), .ref (ad (t + 3)), .ref (ad (t + 4)), .int (iI (((sa : Nat) : Int) + 1)), .long (jI (((sc : Nat) : Int) + ((cu : Nat) : Int))), .long (jI ((tk : Nat) : Int))]) := f_t
        have f_fr := (hne7 (t + 2) (by omega)).trans f_fr
        have f_la := (hne7 (t + 3) (by omega)).trans f_la
        have f_ch := (hne7 rw (by omega)).trans f_ch
        have hfr : ∀ j, j ≠ t → j ≠ (t + 2) → j ≠ (t + 3) → w6 j = w j := fun j a0 a1 a2 => (hne7 j (by omega)).trans (hfr j a0 a1 a2)
        refine lv_aload_n hx hb dX5_close_62 rfl (lv_at hl 0 rfl) ?_
        refine lv_dup hx hb dX5_close_63 rfl ?_
        refine n_get hx hb hts u_X5 hown hK hP (by omega) f_t rfl 6 (by decide) (nT_m wf_X5_36) rfl dX5_close_64 ?_
        refine lv_iload_n hx hb dX5_close_67 rfl (lv_at hl 1 rfl) ?_
        refine n_i2l hx hb dX5_close_68 (by omega) ?_
        refine n_ladd hx hb dX5_close_69 ?_
        refine n_put hx hb hts u_X5 tyX5 tyX5_ok nmX5 hown hK hJ hP hS (by omega) f_t rfl 6 (by decide) (nT_m wf_X5_36) rfl rfl rfl (Nat.le_of_ble_eq_true rfl) dX5_close_70 (fun w8 H locs f_t hne9 hP hS => ?_)
        have f_t : w8 t = .inr (5, [.ref (ad (t + 1)), .ref (ad (t + 2)), .ref (ad (t + 3)), .ref (ad (t + 4)), .int (iI (((sa : Nat) : Int) + 1)), .long (jI (((sc : Nat) : Int) + ((cu : Nat) : Int))), .long (jI (((tk : Nat) : Int) + ((pr : Nat) : Int)))]) := f_t
        have f_fr := (hne9 (t + 2) (by omega)).trans f_fr
        have f_la := (hne9 (t + 3) (by omega)).trans f_la
        have f_ch := (hne9 rw (by omega)).trans f_ch
        have hfr : ∀ j, j ≠ t → j ≠ (t + 2) → j ≠ (t + 3) → w8 j = w j := fun j a0 a1 a2 => (hne9 j (by omega)).trans (hfr j a0 a1 a2)
        refine n_vretP hQ hx hb hr hlocks hP hS dX5_close_73 ?_
        exact ⟨hfr, f_t, f_fr, f_la⟩
      · skip
        refine lv_aload_n hx hb dX5_close_10 rfl (lv_at hl 0 rfl) ?_
        refine n_get hx hb hts u_X5 hown hK hP (by omega) f_t rfl 1 (by decide) (nT_m wf_X5_15) rfl dX5_close_11 ?_
        refine lv_iload hx hb dX5_close_14 (lv_at hl 4 rfl) ?_
        refine lv_dup2_11 hx hb dX5_close_16 rfl rfl ?_
        refine n_iald hx hb hK hP q (by omega) f_fr (by omega) (by omega) (by decide) dX5_close_17 ?_
        refine lv_aload_n hx hb dX5_close_18 rfl (lv_at hl 3 rfl) ?_
        refine lv_iload hx hb dX5_close_19 (lv_at hl 4 rfl) ?_
        refine n_iald hx hb hK hP q (by omega) f_ch (by omega) (by omega) (by decide) dX5_close_21 ?_
        refine n_isub hx hb dX5_close_22 ?_
        refine n_iast hx hb hK hJ hP hS q (by omega) f_fr (by omega) (by omega) (by decide) dX5_close_23 (fun w10 H locs f_fr hne11 hP hS => ?_)
        have f_t := (hne11 t (by omega)).trans f_t
        have f_la := (hne11 (t + 3) (by omega)).trans f_la
        have f_ch := (hne11 rw (by omega)).trans f_ch
        have hfr : ∀ j, j ≠ t → j ≠ (t + 2) → j ≠ (t + 3) → w10 j = w j := fun j a0 a1 a2 => (hne11 j (by omega)).trans (hfr j a0 a1 a2)
        refine lv_aload_n hx hb dX5_close_24 rfl (lv_at hl 0 rfl) ?_
        refine n_get hx hb hts u_X5 hown hK hP (by omega) f_t rfl 2 (by decide) (nT_m wf_X5_18) rfl dX5_close_25 ?_
        refine lv_iload hx hb dX5_close_28 (lv_at hl 4 rfl) ?_
        refine lv_aload_n hx hb dX5_close_30 rfl (lv_at hl 3 rfl) ?_
        refine lv_iload hx hb dX5_close_31 (lv_at hl 4 rfl) ?_
        refine n_iald hx hb hK hP q (by omega) f_ch (by omega) (by omega) (by decide) dX5_close_33 ?_
        refine n_iast hx hb hK hJ hP hS q (by omega) f_la (by omega) (by omega) (by decide) dX5_close_34 (fun w12 H locs f_la hne13 hP hS => ?_)
        have f_t := (hne13 t (by omega)).trans f_t
        have f_fr := (hne13 (t + 2) (by omega)).trans f_fr
        have f_ch := (hne13 rw (by omega)).trans f_ch
        have hfr : ∀ j, j ≠ t → j ≠ (t + 2) → j ≠ (t + 3) → w12 j = w j := fun j a0 a1 a2 => (hne13 j (by omega)).trans (hfr j a0 a1 a2)
        refine lv_iinc (v := iI (((q : Nat) : Int) + 1)) (lv' := [(4, .int (iI (((q : Nat) : Int) + 1))), (0, .ref (ad t)), (1, .int (iI ((pr : Nat) : Int))), (2, .int (iI ((cu : Nat) : Int))), (3, .ref (ad rw))]) hx hb dX5_close_35 hl (k := 4) rfl (by first | exact iI_add _ _ | exact (iI_add _ _).trans (congrArg iI (by omega))) (by decide) rfl (fun ls hl => ?_)
        refine lv_goto (tgt := 3) hx hb dX5_close_38 (by decide) ?_
        exact ih3 (q + 1) _ _ _ _ (by omega) (by omega) hfr f_t (f_fr.trans (congrArg (aI G 8) (subF_s fr ch q (hch q (by omega))))) (f_la.trans (congrArg (aI G 8) (cpF_s la ch q))) f_ch hP hS (by first | exact lv_sub hl [1, 2, 3, 4, 0] rfl | exact lv_cast (lv_sub (l' := [(0, .ref (ad t)), (1, .int (iI ((pr : Nat) : Int))), (2, .int (iI ((cu : Nat) : Int))), (3, .ref (ad rw)), (4, .int (iI (((q : Nat) : Int) + 1)))]) hl [1, 2, 3, 4, 0] rfl) (lc_s (lc_s (lc_s (lc_s (lc_i (show ((((q : Nat) : Int) + 1) : Int) = (((q + 1) : Nat) : Int) by omega) rfl))))))
  exact lp1 (8 - 0 + 1) 0 _ _ _ _ (Nat.lt_succ_self _) (by omega) hfr f_t (f_fr.trans (by rw [subF_0])) (f_la.trans (by rw [cpF_0])) f_ch hP hS (by first | exact lv_sub hl [1, 2, 3, 4, 0] rfl | exact lv_cast (lv_sub (l' := [(0, .ref (ad t)), (1, .int (iI ((pr : Nat) : Int))), (2, .int (iI ((cu : Nat) : Int))), (3, .ref (ad rw)), (4, .int (iI 0))]) hl [1, 2, 3, 4, 0] rfl) (lc_s (lc_s (lc_s (lc_s (lc_i (show (0 : Int) = ((0 : Nat) : Int) by omega) rfl))))))
set_option maxHeartbeats 4000000 in
set_option maxRecDepth 100000 in
theorem c_X4_coinageOf_y {l : Launch} {G : nG} {N : Nat} {ad : Nat → Nat} {w : Nat → va_E} {sz : Nat} (b tn ra rb stp : Nat) (sy : Nat) (hN : b + 49 < N) (hs : sy < 2) (f_L : w b = .inr (4, [.ref (ad (b + 1)), .ref (ad (b + 5)), .ref (ad (b + 9)), .ref (ad (b + 12)), .ref (ad (b + 13)), .int (iI ((tn : Nat) : Int)), .int (iI ((ra : Nat) : Int)), .int (iI ((rb : Nat) : Int)), .int (iI ((stp : Nat) : Int))])) : Met l yX4_coinageOf wsX4_coinageOf ({ frames := 0, cells := 0, slots := 0, locals := 0 }) (va_Pc [.ref (ad b), .int (iI ((sy : Nat) : Int))] (nB G N ad w sz)) (nRd (.ref (ad (b + 1 + 4 * sy)))) 0 0 (fun _ => False) := by
  refine n_ent (cc := cX4_coinageOf) (maxL := 2) (ret := (some (.object "NewCoins$Coinage"))) (by decide) rfl (Nat.le_of_ble_eq_true rfl) ?_
  intro p e s m below meth cd hx hb hr hml hlocks hts hown hnm hsz hP hK hI Q hQ ls hl
  have hown : s.vm.findClass RX4 = some m.cls := hown
  have hl : lv_has ls 2 [(0, .ref (ad b)), (1, .int (iI ((sy : Nat) : Int)))] := hl
  refine lv_iload_n hx hb dX4_coinageOf_0 rfl (lv_at hl 1 rfl) ?_
  refine n_if_ne (tgt := 9) hx hb dX4_coinageOf_1 (by decide) (by omega) (fun hc1 => ?_) (fun hc1 => ?_)
  · skip
    refine lv_iload_n hx hb dX4_coinageOf_9 rfl (lv_at hl 1 rfl) ?_
    refine n_iconst hx hb dX4_coinageOf_10 ?_
    refine n_icmp_ne (tgt := 21) hx hb dX4_coinageOf_11 (by decide) (by omega) (by omega) (fun hc11 => ?_) (fun hc11 => ?_)
    · skip
      exact absurd hc11 (by omega)
    · skip
      refine lv_aload_n hx hb dX4_coinageOf_14 rfl (lv_at hl 0 rfl) ?_
      refine n_get hx hb hts u_X4 hown hK hP (by omega) f_L rfl 1 (by decide) (nT_m wf_X4_18) rfl dX4_coinageOf_15 ?_
      refine lv_goto (tgt := 22) hx hb dX4_coinageOf_18 (by decide) ?_
      exact n_aretR hQ hx hb hr (Or.inl ⟨_, rfl⟩) hlocks (Or.inr ⟨_, rfl⟩) (by rw [show b + 1 + 4 * sy = (b + 5) by omega]) dX4_coinageOf_22
  · skip
    refine lv_aload_n hx hb dX4_coinageOf_4 rfl (lv_at hl 0 rfl) ?_
    refine n_get hx hb hts u_X4 hown hK hP (by omega) f_L rfl 0 (by decide) (nT_m wf_X4_12) rfl dX4_coinageOf_5 ?_
    exact n_aretR hQ hx hb hr (Or.inl ⟨_, rfl⟩) hlocks (Or.inr ⟨_, rfl⟩) (by rw [show b + 1 + 4 * sy = (b + 1) by omega]) dX4_coinageOf_8
set_option maxHeartbeats 4000000 in
set_option maxRecDepth 100000 in
theorem c_X4_coinageOf_n {l : Launch} {G : nG} {N : Nat} {ad : Nat → Nat} {w : Nat → va_E} {sz : Nat} (b tn ra rb stp : Nat) (z : Int) (hN : b + 49 < N) (hz : -2147483648 ≤ z ∧ z < 2147483648) (hs : ¬ z = 0 ∧ ¬ z = 1) (f_L : w b = .inr (4, [.ref (ad (b + 1)), .ref (ad (b + 5)), .ref (ad (b + 9)), .ref (ad (b + 12)), .ref (ad (b + 13)), .int (iI ((tn : Nat) : Int)), .int (iI ((ra : Nat) : Int)), .int (iI ((rb : Nat) : Int)), .int (iI ((stp : Nat) : Int))])) : Met l yX4_coinageOf wsX4_coinageOf ({ frames := 0, cells := 0, slots := 0, locals := 0 }) (va_Pc [.ref (ad b), .int (iI z)] (nB G N ad w sz)) (nRd (.null)) 0 0 (fun _ => False) := by
  refine n_ent (cc := cX4_coinageOf) (maxL := 2) (ret := (some (.object "NewCoins$Coinage"))) (by decide) rfl (Nat.le_of_ble_eq_true rfl) ?_
  intro p e s m below meth cd hx hb hr hml hlocks hts hown hnm hsz hP hK hI Q hQ ls hl
  have hown : s.vm.findClass RX4 = some m.cls := hown
  have hl : lv_has ls 2 [(0, .ref (ad b)), (1, .int (iI z))] := hl
  refine lv_iload_n hx hb dX4_coinageOf_0 rfl (lv_at hl 1 rfl) ?_
  refine n_if_ne (tgt := 9) hx hb dX4_coinageOf_1 (by decide) (by omega) (fun hc1 => ?_) (fun hc1 => ?_)
  · skip
    refine lv_iload_n hx hb dX4_coinageOf_9 rfl (lv_at hl 1 rfl) ?_
    refine n_iconst hx hb dX4_coinageOf_10 ?_
    refine n_icmp_ne (tgt := 21) hx hb dX4_coinageOf_11 (by decide) (by omega) (by omega) (fun hc11 => ?_) (fun hc11 => ?_)
    · skip
      refine lv_null hx hb dX4_coinageOf_21 ?_
      exact n_aretR hQ hx hb hr (Or.inl ⟨_, rfl⟩) hlocks (Or.inl rfl) rfl dX4_coinageOf_22
    · skip
      exact absurd hc11 (by omega)
  · skip
    exact absurd hc1 (by omega)
set_option maxHeartbeats 4000000 in
set_option maxRecDepth 100000 in
theorem c_X4_tillAt_y {l : Launch} {G : nG} {N : Nat} {ad : Nat → Nat} {w : Nat → va_E} {sz : Nat} (b tn ra rb stp : Nat) (t : Nat) (hN : b + 49 < N) (htn : tn ≤ 4) (ht : t < tn) (f_L : w b = .inr (4, [.ref (ad (b + 1)), .ref (ad (b + 5)), .ref (ad (b + 9)), .ref (ad (b + 12)), .ref (ad (b + 13)), .int (iI ((tn : Nat) : Int)), .int (iI ((ra : Nat) : Int)), .int (iI ((rb : Nat) : Int)), .int (iI ((stp : Nat) : Int))])) (f_ts : w (b + 12) = aR G 3 4 (fun k => some (ad (b + 14 + 9 * k)))) : Met l yX4_tillAt wsX4_tillAt ({ frames := 1, cells := 0, slots := 0, locals := 22 }) (va_Pc [.ref (ad b), .int (iI ((t : Nat) : Int))] (nB G N ad w sz)) (nRd (.ref (ad (b + 14 + 9 * t)))) 0 0 (fun _ => False) := by
  refine n_ent (cc := cX4_tillAt) (maxL := 2) (ret := (some (.object "NewCoins$Till"))) (by decide) rfl (Nat.le_of_ble_eq_true rfl) ?_
  intro p e s m below meth cd hx hb hr hml hlocks hts hown hnm hsz hP hK hI Q hQ ls hl
  have hown : s.vm.findClass RX4 = some m.cls := hown
  have hl : lv_has ls 2 [(0, .ref (ad b)), (1, .int (iI ((t : Nat) : Int)))] := hl
  refine n_iconst hx hb dX4_tillAt_0 ?_
  refine lv_iload_n hx hb dX4_tillAt_1 rfl (lv_at hl 1 rfl) ?_
  refine lv_aload_n hx hb dX4_tillAt_2 rfl (lv_at hl 0 rfl) ?_
  refine n_get hx hb hts u_X4 hown hK hP (by omega) f_L rfl 5 (by decide) (nT_m wf_X4_38) rfl dX4_tillAt_3 ?_
  refine n_iconst hx hb dX4_tillAt_6 ?_
  refine n_isub hx hb dX4_tillAt_7 ?_
  refine n_rdF (va_runSN (As := [.int (iI 0), .int (iI ((t : Nat) : Int)), .int (iI (((tn : Nat) : Int) - 1))]) (rest := []) ⟨hx, hb, hml, hown, hts⟩ (c_X6_within 0 ((t : Nat) : Int) (((tn : Nat) : Int) - 1) (by omega) (by omega) (by omega)) ⟨va_cnB 3 hts (nT_N wc_X6_within) rfl rfl rfl (hK.2 _ (List.mem_of_getElem? (i := 9) rfl)) (hts _ (nT_m wn_X6)) (by decide +kernel) ⟨Nat.le_of_ble_eq_true rfl, Nat.le_of_ble_eq_true rfl⟩, hts _ (nT_m wt_X6_within), trivial⟩ preEq rfl rfl hl.1 rfl (lv_room (Nat.le_of_ble_eq_true rfl)) dX4_tillAt_8 ⟨Nat.zero_le _, Nat.zero_le _⟩) ?_
  refine n_if_eqB (tgt := 23) hx hb dX4_tillAt_11 (by decide) (fun hc11 => ?_) (fun hc11 => ?_)
  · skip
    exact absurd hc11 (by omega)
  · skip
    refine lv_aload_n hx hb dX4_tillAt_14 rfl (lv_at hl 0 rfl) ?_
    refine n_get hx hb hts u_X4 hown hK hP (by omega) f_L rfl 3 (by decide) (nT_m wf_X4_30) rfl dX4_tillAt_15 ?_
    refine lv_iload_n hx hb dX4_tillAt_18 rfl (lv_at hl 1 rfl) ?_
    refine n_aald hx hb hK hP (.object "NewCoins$Till") t (by omega) f_ts rfl rfl (by omega) (by omega) (by decide) rfl dX4_tillAt_19 ?_
    refine lv_goto (tgt := 24) hx hb dX4_tillAt_20 (by decide) ?_
    exact n_aretR hQ hx hb hr (Or.inl ⟨_, rfl⟩) hlocks (Or.inr ⟨_, rfl⟩) rfl dX4_tillAt_24
set_option maxHeartbeats 4000000 in
set_option maxRecDepth 100000 in
theorem c_X4_tillAt_n {l : Launch} {G : nG} {N : Nat} {ad : Nat → Nat} {w : Nat → va_E} {sz : Nat} (b tn ra rb stp : Nat) (z : Int) (hN : b + 49 < N) (htn : tn ≤ 4) (hz : -2147483648 ≤ z ∧ z < 2147483648) (ht : ¬ (0 ≤ z ∧ z < tn)) (f_L : w b = .inr (4, [.ref (ad (b + 1)), .ref (ad (b + 5)), .ref (ad (b + 9)), .ref (ad (b + 12)), .ref (ad (b + 13)), .int (iI ((tn : Nat) : Int)), .int (iI ((ra : Nat) : Int)), .int (iI ((rb : Nat) : Int)), .int (iI ((stp : Nat) : Int))])) : Met l yX4_tillAt wsX4_tillAt ({ frames := 1, cells := 0, slots := 0, locals := 22 }) (va_Pc [.ref (ad b), .int (iI z)] (nB G N ad w sz)) (nRd (.null)) 0 0 (fun _ => False) := by
  refine n_ent (cc := cX4_tillAt) (maxL := 2) (ret := (some (.object "NewCoins$Till"))) (by decide) rfl (Nat.le_of_ble_eq_true rfl) ?_
  intro p e s m below meth cd hx hb hr hml hlocks hts hown hnm hsz hP hK hI Q hQ ls hl
  have hown : s.vm.findClass RX4 = some m.cls := hown
  have hl : lv_has ls 2 [(0, .ref (ad b)), (1, .int (iI z))] := hl
  refine n_iconst hx hb dX4_tillAt_0 ?_
  refine lv_iload_n hx hb dX4_tillAt_1 rfl (lv_at hl 1 rfl) ?_
  refine lv_aload_n hx hb dX4_tillAt_2 rfl (lv_at hl 0 rfl) ?_
  refine n_get hx hb hts u_X4 hown hK hP (by omega) f_L rfl 5 (by decide) (nT_m wf_X4_38) rfl dX4_tillAt_3 ?_
  refine n_iconst hx hb dX4_tillAt_6 ?_
  refine n_isub hx hb dX4_tillAt_7 ?_
  refine n_rdF (va_runSN (As := [.int (iI 0), .int (iI z), .int (iI (((tn : Nat) : Int) - 1))]) (rest := []) ⟨hx, hb, hml, hown, hts⟩ (c_X6_within 0 z (((tn : Nat) : Int) - 1) (by omega) (by omega) (by omega)) ⟨va_cnB 3 hts (nT_N wc_X6_within) rfl rfl rfl (hK.2 _ (List.mem_of_getElem? (i := 9) rfl)) (hts _ (nT_m wn_X6)) (by decide +kernel) ⟨Nat.le_of_ble_eq_true rfl, Nat.le_of_ble_eq_true rfl⟩, hts _ (nT_m wt_X6_within), trivial⟩ preEq rfl rfl hl.1 rfl (lv_room (Nat.le_of_ble_eq_true rfl)) dX4_tillAt_8 ⟨Nat.zero_le _, Nat.zero_le _⟩) ?_
  refine n_if_eqB (tgt := 23) hx hb dX4_tillAt_11 (by decide) (fun hc11 => ?_) (fun hc11 => ?_)
  · skip
    refine lv_null hx hb dX4_tillAt_23 ?_
    exact n_aretR hQ hx hb hr (Or.inl ⟨_, rfl⟩) hlocks (Or.inl rfl) rfl dX4_tillAt_24
  · skip
    exact absurd hc11 (by omega)
set_option maxHeartbeats 4000000 in
set_option maxRecDepth 100000 in
theorem c_X4_isCoin_y {l : Launch} {G : nG} {N : Nat} {ad : Nat → Nat} {w : Nat → va_E} {sz : Nat} (b tn ra rb stp : Nat) (sy cnt : Nat) (z : Int) (hN : b + 49 < N) (hs : sy < 2) (hc : cnt ≤ 8) (hz : -2147483648 ≤ z ∧ z < 2147483648) (f_L : w b = .inr (4, [.ref (ad (b + 1)), .ref (ad (b + 5)), .ref (ad (b + 9)), .ref (ad (b + 12)), .ref (ad (b + 13)), .int (iI ((tn : Nat) : Int)), .int (iI ((ra : Nat) : Int)), .int (iI ((rb : Nat) : Int)), .int (iI ((stp : Nat) : Int))])) (f_o : w (b + 1 + 4 * sy) = .inr (1, [.int (iI ((cnt : Nat) : Int)), .ref (ad ((b + 1 + 4 * sy) + 1)), .ref (ad ((b + 1 + 4 * sy) + 2)), .ref (ad ((b + 1 + 4 * sy) + 3))])) : Met l yX4_isCoin wsX4_isCoin ({ frames := 2, cells := 0, slots := 0, locals := 43 }) (va_Pc [.ref (ad b), .int (iI ((sy : Nat) : Int)), .int (iI z)] (nB G N ad w sz)) (nRd (.int (iI (bI (0 ≤ z ∧ z < cnt))))) 0 0 (fun _ => False) := by
  refine n_ent (cc := cX4_isCoin) (maxL := 4) (ret := (some .boolean)) (by decide) rfl (Nat.le_of_ble_eq_true rfl) ?_
  intro p e s m below meth cd hx hb hr hml hlocks hts hown hnm hsz hP hK hI Q hQ ls hl
  have hown : s.vm.findClass RX4 = some m.cls := hown
  have hl : lv_has ls 4 [(0, .ref (ad b)), (1, .int (iI ((sy : Nat) : Int))), (2, .int (iI z))] := hl
  refine lv_aload_n hx hb dX4_isCoin_0 rfl (lv_at hl 0 rfl) ?_
  refine lv_iload_n hx hb dX4_isCoin_1 rfl (lv_at hl 1 rfl) ?_
  refine n_rdF (va_runV (As := [.int (iI ((sy : Nat) : Int))]) (rest := []) ⟨hx, hb, hml, hown, hts⟩ (c_X4_coinageOf_y _ _ _ _ _ sy (by omega) (by omega) f_L) (cwV 1 hts (nT_V wl_X4_72 wi_X4_coinageOf ws_X4_coinageOf wn_X4 wc_X4_coinageOf) rfl rfl rfl (by decide +kernel) ⟨Nat.le_of_ble_eq_true rfl, Nat.le_of_ble_eq_true rfl⟩) (nB.preV hK hI hP (by omega) f_L rfl rfl) rfl rfl hl.1 rfl (lv_room (Nat.le_of_ble_eq_true rfl)) dX4_isCoin_2 ⟨Nat.zero_le _, Nat.zero_le _⟩) ?_
  refine lv_astore_n (lv' := [(3, .ref (ad (b + 1 + 4 * sy))), (0, .ref (ad b)), (1, .int (iI ((sy : Nat) : Int))), (2, .int (iI z))]) hx hb dX4_isCoin_5 rfl hl (by decide) rfl (fun ls hl => ?_)
  refine lv_aload_n hx hb dX4_isCoin_6 rfl (lv_at hl 0 rfl) ?_
  refine lv_ifnull hx hb dX4_isCoin_7 ?_
  refine lv_aload_n hx hb dX4_isCoin_10 rfl (lv_at hl 0 rfl) ?_
  refine lv_iload_n hx hb dX4_isCoin_11 rfl (lv_at hl 3 rfl) ?_
  refine n_rdF (va_runV (As := [.int (iI z)]) (rest := []) ⟨hx, hb, hml, hown, hts⟩ (c_X1_isCoin _ _ z (by omega) (by omega) (by omega) f_o) (cwV 1 hts (nT_V wl_X4_76 wi_X1_isCoin ws_X1_isCoin wn_X1 wc_X1_isCoin) rfl rfl rfl (by decide +kernel) ⟨Nat.le_of_ble_eq_true rfl, Nat.le_of_ble_eq_true rfl⟩) (nB.preV hK hI hP (by omega) f_o rfl rfl) rfl rfl hl.1 rfl (lv_room (Nat.le_of_ble_eq_true rfl)) dX4_isCoin_12 ⟨Nat.zero_le _, Nat.zero_le _⟩) ?_
  refine n_if_eqB (tgt := 22) hx hb dX4_isCoin_15 (by decide) (fun hc15 => ?_) (fun hc15 => ?_)
  · skip
    refine n_iconst hx hb dX4_isCoin_22 ?_
    exact n_zretR hQ hx hb hr hlocks (by unfold bI; split <;> omega) dX4_isCoin_23
  · skip
    refine n_iconst hx hb dX4_isCoin_18 ?_
    refine lv_goto (tgt := 23) hx hb dX4_isCoin_19 (by decide) ?_
    exact n_zretR hQ hx hb hr hlocks (by unfold bI; split <;> omega) dX4_isCoin_23
set_option maxHeartbeats 4000000 in
set_option maxRecDepth 100000 in
theorem c_X4_isCoin_n {l : Launch} {G : nG} {N : Nat} {ad : Nat → Nat} {w : Nat → va_E} {sz : Nat} (b tn ra rb stp : Nat) (y z : Int) (hN : b + 49 < N) (hy : -2147483648 ≤ y ∧ y < 2147483648) (hs : ¬ y = 0 ∧ ¬ y = 1) (f_L : w b = .inr (4, [.ref (ad (b + 1)), .ref (ad (b + 5)), .ref (ad (b + 9)), .ref (ad (b + 12)), .ref (ad (b + 13)), .int (iI ((tn : Nat) : Int)), .int (iI ((ra : Nat) : Int)), .int (iI ((rb : Nat) : Int)), .int (iI ((stp : Nat) : Int))])) : Met l yX4_isCoin wsX4_isCoin ({ frames := 2, cells := 0, slots := 0, locals := 43 }) (va_Pc [.ref (ad b), .int (iI y), .int (iI z)] (nB G N ad w sz)) (nRd (.int (iI (bI False)))) 0 0 (fun _ => False) := by
  refine n_ent (cc := cX4_isCoin) (maxL := 4) (ret := (some .boolean)) (by decide) rfl (Nat.le_of_ble_eq_true rfl) ?_
  intro p e s m below meth cd hx hb hr hml hlocks hts hown hnm hsz hP hK hI Q hQ ls hl
  have hown : s.vm.findClass RX4 = some m.cls := hown
  have hl : lv_has ls 4 [(0, .ref (ad b)), (1, .int (iI y)), (2, .int (iI z))] := hl
  refine lv_aload_n hx hb dX4_isCoin_0 rfl (lv_at hl 0 rfl) ?_
  refine lv_iload_n hx hb dX4_isCoin_1 rfl (lv_at hl 1 rfl) ?_
  refine n_rdF (va_runV (As := [.int (iI y)]) (rest := []) ⟨hx, hb, hml, hown, hts⟩ (c_X4_coinageOf_n _ _ _ _ _ y (by omega) (by omega) (by omega) f_L) (cwV 1 hts (nT_V wl_X4_72 wi_X4_coinageOf ws_X4_coinageOf wn_X4 wc_X4_coinageOf) rfl rfl rfl (by decide +kernel) ⟨Nat.le_of_ble_eq_true rfl, Nat.le_of_ble_eq_true rfl⟩) (nB.preV hK hI hP (by omega) f_L rfl rfl) rfl rfl hl.1 rfl (lv_room (Nat.le_of_ble_eq_true rfl)) dX4_isCoin_2 ⟨Nat.zero_le _, Nat.zero_le _⟩) ?_
  refine lv_astore_nN (lv' := [(3, .null), (0, .ref (ad b)), (1, .int (iI y)), (2, .int (iI z))]) hx hb dX4_isCoin_5 rfl hl (by decide) rfl (fun ls hl => ?_)
  refine lv_aload_nN hx hb dX4_isCoin_6 rfl (lv_at hl 0 rfl) ?_
  refine lv_ifnullN (tgt := 22) hx hb dX4_isCoin_7 (by decide) ?_
  refine n_iconst hx hb dX4_isCoin_22 ?_
  exact n_zretR hQ hx hb hr hlocks rfl dX4_isCoin_23
set_option maxHeartbeats 4000000 in
set_option maxRecDepth 100000 in
theorem c_X4_isSale_y {l : Launch} {G : nG} {N : Nat} {ad : Nat → Nat} {w : Nat → va_E} {sz : Nat} (b tn ra rb stp : Nat) (sy cnt : Nat) (pz z nz : Int) (hN : b + 49 < N) (hs : sy < 2) (hc : cnt ≤ 8) (hpz : -2147483648 ≤ pz ∧ pz < 2147483648) (hz : -2147483648 ≤ z ∧ z < 2147483648) (hnz : -2147483648 ≤ nz ∧ nz < 2147483648) (f_L : w b = .inr (4, [.ref (ad (b + 1)), .ref (ad (b + 5)), .ref (ad (b + 9)), .ref (ad (b + 12)), .ref (ad (b + 13)), .int (iI ((tn : Nat) : Int)), .int (iI ((ra : Nat) : Int)), .int (iI ((rb : Nat) : Int)), .int (iI ((stp : Nat) : Int))])) (f_o : w (b + 1 + 4 * sy) = .inr (1, [.int (iI ((cnt : Nat) : Int)), .ref (ad ((b + 1 + 4 * sy) + 1)), .ref (ad ((b + 1 + 4 * sy) + 2)), .ref (ad ((b + 1 + 4 * sy) + 3))])) : Met l yX4_isSale wsX4_isSale ({ frames := 3, cells := 0, slots := 0, locals := 66 }) (va_Pc [.ref (ad b), .int (iI pz), .int (iI ((sy : Nat) : Int)), .int (iI z), .int (iI nz)] (nB G N ad w sz)) (nRd (.int (iI (bI ((1 ≤ pz ∧ pz ≤ 2000) ∧ (1 ≤ nz ∧ nz ≤ 50) ∧ 0 ≤ z ∧ z < (cnt : Int)))))) 0 0 (fun _ => False) := by
  refine n_ent (cc := cX4_isSale) (maxL := 5) (ret := (some .boolean)) (by decide) rfl (Nat.le_of_ble_eq_true rfl) ?_
  intro p e s m below meth cd hx hb hr hml hlocks hts hown hnm hsz hP hK hI Q hQ ls hl
  have hown : s.vm.findClass RX4 = some m.cls := hown
  have hl : lv_has ls 5 [(0, .ref (ad b)), (1, .int (iI pz)), (2, .int (iI ((sy : Nat) : Int))), (3, .int (iI z)), (4, .int (iI nz))] := hl
  refine n_iconst hx hb dX4_isSale_0 ?_
  refine lv_iload_n hx hb dX4_isSale_1 rfl (lv_at hl 1 rfl) ?_
  refine n_sipush hx hb dX4_isSale_2 (by decide) ?_
  refine n_rdF (va_runSN (As := [.int (iI 1), .int (iI pz), .int (iI 2000)]) (rest := []) ⟨hx, hb, hml, hown, hts⟩ (c_X6_within 1 pz 2000 (by omega) (by omega) (by omega)) ⟨va_cnB 3 hts (nT_N wc_X6_within) rfl rfl rfl (hK.2 _ (List.mem_of_getElem? (i := 9) rfl)) (hts _ (nT_m wn_X6)) (by decide +kernel) ⟨Nat.le_of_ble_eq_true rfl, Nat.le_of_ble_eq_true rfl⟩, hts _ (nT_m wt_X6_within), trivial⟩ preEq rfl rfl hl.1 rfl (lv_room (Nat.le_of_ble_eq_true rfl)) dX4_isSale_5 ⟨Nat.zero_le _, Nat.zero_le _⟩) ?_
  refine n_if_eqB (tgt := 35) hx hb dX4_isSale_8 (by decide) (fun hc8 => ?_) (fun hc8 => ?_)
  · skip
    refine n_iconst hx hb dX4_isSale_35 ?_
    exact n_zretR hQ hx hb hr hlocks (by unfold bI; split <;> omega) dX4_isSale_36
  · skip
    refine n_iconst hx hb dX4_isSale_11 ?_
    refine lv_iload hx hb dX4_isSale_12 (lv_at hl 4 rfl) ?_
    refine n_bipush hx hb dX4_isSale_14 (by decide) ?_
    refine n_rdF (va_runSN (As := [.int (iI 1), .int (iI nz), .int (iI 50)]) (rest := []) ⟨hx, hb, hml, hown, hts⟩ (c_X6_within 1 nz 50 (by omega) (by omega) (by omega)) ⟨va_cnB 3 hts (nT_N wc_X6_within) rfl rfl rfl (hK.2 _ (List.mem_of_getElem? (i := 9) rfl)) (hts _ (nT_m wn_X6)) (by decide +kernel) ⟨Nat.le_of_ble_eq_true rfl, Nat.le_of_ble_eq_true rfl⟩, hts _ (nT_m wt_X6_within), trivial⟩ preEq rfl rfl hl.1 rfl (lv_room (Nat.le_of_ble_eq_true rfl)) dX4_isSale_16 ⟨Nat.zero_le _, Nat.zero_le _⟩) ?_
    refine n_if_eqB (tgt := 35) hx hb dX4_isSale_19 (by decide) (fun hc19 => ?_) (fun hc19 => ?_)
    · skip
      refine n_iconst hx hb dX4_isSale_35 ?_
      exact n_zretR hQ hx hb hr hlocks (by unfold bI; split <;> omega) dX4_isSale_36
    · skip
      refine lv_aload_n hx hb dX4_isSale_22 rfl (lv_at hl 0 rfl) ?_
      refine lv_iload_n hx hb dX4_isSale_23 rfl (lv_at hl 2 rfl) ?_
      refine lv_iload_n hx hb dX4_isSale_24 rfl (lv_at hl 3 rfl) ?_
      refine n_rdF (va_runV (As := [.int (iI ((sy : Nat) : Int)), .int (iI z)]) (rest := []) ⟨hx, hb, hml, hown, hts⟩ (c_X4_isCoin_y _ _ _ _ _ sy _ z (by omega) (by omega) (by omega) (by omega) f_L f_o) (cwV 2 hts (nT_V wl_X4_80 wi_X4_isCoin ws_X4_isCoin wn_X4 wc_X4_isCoin) rfl rfl rfl (by decide +kernel) ⟨Nat.le_of_ble_eq_true rfl, Nat.le_of_ble_eq_true rfl⟩) (nB.preV hK hI hP (by omega) f_L rfl rfl) rfl rfl hl.1 rfl (lv_room (Nat.le_of_ble_eq_true rfl)) dX4_isSale_25 ⟨Nat.zero_le _, Nat.zero_le _⟩) ?_
      refine n_if_eqB (tgt := 35) hx hb dX4_isSale_28 (by decide) (fun hc28 => ?_) (fun hc28 => ?_)
      · skip
        refine n_iconst hx hb dX4_isSale_35 ?_
        exact n_zretR hQ hx hb hr hlocks (by unfold bI; split <;> omega) dX4_isSale_36
      · skip
        refine n_iconst hx hb dX4_isSale_31 ?_
        refine lv_goto (tgt := 36) hx hb dX4_isSale_32 (by decide) ?_
        exact n_zretR hQ hx hb hr hlocks (by unfold bI; split <;> omega) dX4_isSale_36
set_option maxHeartbeats 4000000 in
set_option maxRecDepth 100000 in
theorem c_X4_isSale_n {l : Launch} {G : nG} {N : Nat} {ad : Nat → Nat} {w : Nat → va_E} {sz : Nat} (b tn ra rb stp : Nat) (pz y z nz : Int) (hN : b + 49 < N) (hy : -2147483648 ≤ y ∧ y < 2147483648) (hs : ¬ y = 0 ∧ ¬ y = 1) (hpz : -2147483648 ≤ pz ∧ pz < 2147483648) (hz : -2147483648 ≤ z ∧ z < 2147483648) (hnz : -2147483648 ≤ nz ∧ nz < 2147483648) (f_L : w b = .inr (4, [.ref (ad (b + 1)), .ref (ad (b + 5)), .ref (ad (b + 9)), .ref (ad (b + 12)), .ref (ad (b + 13)), .int (iI ((tn : Nat) : Int)), .int (iI ((ra : Nat) : Int)), .int (iI ((rb : Nat) : Int)), .int (iI ((stp : Nat) : Int))])) : Met l yX4_isSale wsX4_isSale ({ frames := 3, cells := 0, slots := 0, locals := 66 }) (va_Pc [.ref (ad b), .int (iI pz), .int (iI y), .int (iI z), .int (iI nz)] (nB G N ad w sz)) (nRd (.int (iI (bI False)))) 0 0 (fun _ => False) := by
  refine n_ent (cc := cX4_isSale) (maxL := 5) (ret := (some .boolean)) (by decide) rfl (Nat.le_of_ble_eq_true rfl) ?_
  intro p e s m below meth cd hx hb hr hml hlocks hts hown hnm hsz hP hK hI Q hQ ls hl
  have hown : s.vm.findClass RX4 = some m.cls := hown
  have hl : lv_has ls 5 [(0, .ref (ad b)), (1, .int (iI pz)), (2, .int (iI y)), (3, .int (iI z)), (4, .int (iI nz))] := hl
  refine n_iconst hx hb dX4_isSale_0 ?_
  refine lv_iload_n hx hb dX4_isSale_1 rfl (lv_at hl 1 rfl) ?_
  refine n_sipush hx hb dX4_isSale_2 (by decide) ?_
  refine n_rdF (va_runSN (As := [.int (iI 1), .int (iI pz), .int (iI 2000)]) (rest := []) ⟨hx, hb, hml, hown, hts⟩ (c_X6_within 1 pz 2000 (by omega) (by omega) (by omega)) ⟨va_cnB 3 hts (nT_N wc_X6_within) rfl rfl rfl (hK.2 _ (List.mem_of_getElem? (i := 9) rfl)) (hts _ (nT_m wn_X6)) (by decide +kernel) ⟨Nat.le_of_ble_eq_true rfl, Nat.le_of_ble_eq_true rfl⟩, hts _ (nT_m wt_X6_within), trivial⟩ preEq rfl rfl hl.1 rfl (lv_room (Nat.le_of_ble_eq_true rfl)) dX4_isSale_5 ⟨Nat.zero_le _, Nat.zero_le _⟩) ?_
  refine n_if_eqB (tgt := 35) hx hb dX4_isSale_8 (by decide) (fun hc8 => ?_) (fun hc8 => ?_)
  · skip
    refine n_iconst hx hb dX4_isSale_35 ?_
    exact n_zretR hQ hx hb hr hlocks rfl dX4_isSale_36
  · skip
    refine n_iconst hx hb dX4_isSale_11 ?_
    refine lv_iload hx hb dX4_isSale_12 (lv_at hl 4 rfl) ?_
    refine n_bipush hx hb dX4_isSale_14 (by decide) ?_
    refine n_rdF (va_runSN (As := [.int (iI 1), .int (iI nz), .int (iI 50)]) (rest := []) ⟨hx, hb, hml, hown, hts⟩ (c_X6_within 1 nz 50 (by omega) (by omega) (by omega)) ⟨va_cnB 3 hts (nT_N wc_X6_within) rfl rfl rfl (hK.2 _ (List.mem_of_getElem? (i := 9) rfl)) (hts _ (nT_m wn_X6)) (by decide +kernel) ⟨Nat.le_of_ble_eq_true rfl, Nat.le_of_ble_eq_true rfl⟩, hts _ (nT_m wt_X6_within), trivial⟩ preEq rfl rfl hl.1 rfl (lv_room (Nat.le_of_ble_eq_true rfl)) dX4_isSale_16 ⟨Nat.zero_le _, Nat.zero_le _⟩) ?_
    refine n_if_eqB (tgt := 35) hx hb dX4_isSale_19 (by decide) (fun hc19 => ?_) (fun hc19 => ?_)
    · skip
      refine n_iconst hx hb dX4_isSale_35 ?_
      exact n_zretR hQ hx hb hr hlocks rfl dX4_isSale_36
    · skip
      refine lv_aload_n hx hb dX4_isSale_22 rfl (lv_at hl 0 rfl) ?_
      refine lv_iload_n hx hb dX4_isSale_23 rfl (lv_at hl 2 rfl) ?_
      refine lv_iload_n hx hb dX4_isSale_24 rfl (lv_at hl 3 rfl) ?_
      refine n_rdF (va_runV (As := [.int (iI y), .int (iI z)]) (rest := []) ⟨hx, hb, hml, hown, hts⟩ (c_X4_isCoin_n _ _ _ _ _ y z (by omega) (by omega) (by omega) f_L) (cwV 2 hts (nT_V wl_X4_80 wi_X4_isCoin ws_X4_isCoin wn_X4 wc_X4_isCoin) rfl rfl rfl (by decide +kernel) ⟨Nat.le_of_ble_eq_true rfl, Nat.le_of_ble_eq_true rfl⟩) (nB.preV hK hI hP (by omega) f_L rfl rfl) rfl rfl hl.1 rfl (lv_room (Nat.le_of_ble_eq_true rfl)) dX4_isSale_25 ⟨Nat.zero_le _, Nat.zero_le _⟩) ?_
      refine n_if_eqB (tgt := 35) hx hb dX4_isSale_28 (by decide) (fun hc28 => ?_) (fun hc28 => ?_)
      · skip
        refine n_iconst hx hb dX4_isSale_35 ?_
        exact n_zretR hQ hx hb hr hlocks rfl dX4_isSale_36
      · skip
        exact hc28.elim
set_option maxHeartbeats 4000000 in
set_option maxRecDepth 100000 in
theorem c_X4_hasSold {l : Launch} {G : nG} {N : Nat} {ad : Nat → Nat} {w : Nat → va_E} {sz : Nat} (b tn ra rb stp : Nat) (sa sc tk : Nat → Nat) (hN : b + 49 < N) (htn : tn ≤ 4) (hT : ∀ t, t < 4 → w (b + 14 + 9 * t) = .inr (5, [.ref (ad (b + 14 + 9 * t + 1)), .ref (ad (b + 14 + 9 * t + 2)), .ref (ad (b + 14 + 9 * t + 3)), .ref (ad (b + 14 + 9 * t + 4)), .int (iI ((sa t : Nat) : Int)), .long (jI ((sc t : Nat) : Int)), .long (jI ((tk t : Nat) : Int))])) (hsa : ∀ k, sa k < 2147483648) (f_L : w b = .inr (4, [.ref (ad (b + 1)), .ref (ad (b + 5)), .ref (ad (b + 9)), .ref (ad (b + 12)), .ref (ad (b + 13)), .int (iI ((tn : Nat) : Int)), .int (iI ((ra : Nat) : Int)), .int (iI ((rb : Nat) : Int)), .int (iI ((stp : Nat) : Int))])) (f_ts : w (b + 12) = aR G 3 4 (fun k => some (ad (b + 14 + 9 * k)))) : Met l yX4_hasSold wsX4_hasSold ({ frames := 0, cells := 0, slots := 0, locals := 0 }) (va_Pc [.ref (ad b)] (nB G N ad w sz)) (nRd (.int (iI (bI (anyS sa tn = true))))) 0 0 (fun _ => False) := by
  refine n_ent (cc := cX4_hasSold) (maxL := 2) (ret := (some .boolean)) (by decide) rfl (Nat.le_of_ble_eq_true rfl) ?_
  intro p e s m below meth cd hx hb hr hml hlocks hts hown hnm hsz hP hK hI Q hQ ls hl
  have hown : s.vm.findClass RX4 = some m.cls := hown
  have hl : lv_has ls 2 [(0, .ref (ad b))] := hl
  refine n_iconst hx hb dX4_hasSold_0 ?_
  refine lv_istore_n (lv' := [(1, .int (iI 0)), (0, .ref (ad b))]) hx hb dX4_hasSold_1 rfl hl (by decide) rfl (fun ls hl => ?_)
  have lp1 : ∀ (fu : Nat), ∀ (q : Nat), ∀ (ls : Array Slot), tn - q < fu → q ≤ tn → anyS sa q = false → lv_has ls 2 [(0, .ref (ad b)), (1, .int (iI ((q : Nat) : Int)))] → W p l e ({ frames := 0, cells := 0, slots := 0, locals := 0 } : Room) s m ([.ref (ad b)] : List Value).toArray below meth cd s.heap [] 0 0 Q (F0 m 2 ls []) := by
    intro fu
    induction fu with
    | zero =>
      intro q ls hfu hq hv hl
      exact absurd hfu (Nat.not_lt_zero _)
    | succ fu ih2 =>
      intro q ls hfu hq hv hl
      refine lv_iload_n hx hb dX4_hasSold_2 rfl (lv_at hl 1 rfl) ?_
      refine lv_aload_n hx hb dX4_hasSold_3 rfl (lv_at hl 0 rfl) ?_
      refine n_get hx hb hts u_X4 hown hK hP (by omega) f_L rfl 5 (by decide) (nT_m wf_X4_38) rfl dX4_hasSold_4 ?_
      refine n_icmp_ge (tgt := 30) hx hb dX4_hasSold_7 (by decide) (by omega) (by omega) (fun hc7 => ?_) (fun hc7 => ?_)
      · skip
        refine n_iconst hx hb dX4_hasSold_30 ?_
        exact n_zretR hQ hx hb hr hlocks (bI_f (fun h => by rw [show tn = q by omega, hv] at h; cases h)).symm dX4_hasSold_31
      · skip
        refine lv_aload_n hx hb dX4_hasSold_10 rfl (lv_at hl 0 rfl) ?_
        refine n_get hx hb hts u_X4 hown hK hP (by omega) f_L rfl 3 (by decide) (nT_m wf_X4_30) rfl dX4_hasSold_11 ?_
        refine lv_iload_n hx hb dX4_hasSold_14 rfl (lv_at hl 1 rfl) ?_
        refine n_aald hx hb hK hP (.object "NewCoins$Till") q (by omega) f_ts rfl rfl (by omega) (by omega) (by decide) rfl dX4_hasSold_15 ?_
        have hsq := hsa q
        have f_t := hT q (by omega)
        refine n_get hx hb hts u_X5 hown hK hP (by omega) f_t rfl 4 (by decide) (nT_m wf_X4_83) rfl dX4_hasSold_16 ?_
        refine n_if_le (tgt := 24) hx hb dX4_hasSold_19 (by decide) (by omega) (fun hc19 => ?_) (fun hc19 => ?_)
        · skip
          refine lv_iinc (v := iI (((q : Nat) : Int) + 1)) (lv' := [(1, .int (iI (((q : Nat) : Int) + 1))), (0, .ref (ad b))]) hx hb dX4_hasSold_24 hl (k := 1) rfl (by first | exact iI_add _ _ | exact (iI_add _ _).trans (congrArg iI (by omega))) (by decide) rfl (fun ls hl => ?_)
          refine lv_goto (tgt := 2) hx hb dX4_hasSold_27 (by decide) ?_
          exact ih2 (q + 1) _ (by omega) (by omega) (anyS_f hv (by omega)) (by first | exact lv_sub hl [1, 0] rfl | exact lv_cast (lv_sub (l' := [(0, .ref (ad b)), (1, .int (iI (((q : Nat) : Int) + 1)))]) hl [1, 0] rfl) (lc_s (lc_i (show ((((q : Nat) : Int) + 1) : Int) = (((q + 1) : Nat) : Int) by omega) rfl)))
        · skip
          refine n_iconst hx hb dX4_hasSold_22 ?_
          exact n_zretR hQ hx hb hr hlocks (bI_t (anyS_le (anyS_t (n := q) (by omega)) (by omega))).symm dX4_hasSold_23
  exact lp1 (tn - 0 + 1) 0 _ (Nat.lt_succ_self _) (by omega) rfl (by first | exact lv_sub hl [1, 0] rfl | exact lv_cast (lv_sub (l' := [(0, .ref (ad b)), (1, .int (iI 0))]) hl [1, 0] rfl) (lc_s (lc_i (show (0 : Int) = ((0 : Nat) : Int) by omega) rfl)))
set_option maxHeartbeats 4000000 in
set_option maxRecDepth 100000 in
theorem c_X4_unitParts {l : Launch} {G : nG} {N : Nat} {ad : Nat → Nat} {w : Nat → va_E} {sz : Nat} (b tn ra rb stp : Nat) (sy : Nat) (hN : b + 49 < N) (hs : sy < 2) (f_L : w b = .inr (4, [.ref (ad (b + 1)), .ref (ad (b + 5)), .ref (ad (b + 9)), .ref (ad (b + 12)), .ref (ad (b + 13)), .int (iI ((tn : Nat) : Int)), .int (iI ((ra : Nat) : Int)), .int (iI ((rb : Nat) : Int)), .int (iI ((stp : Nat) : Int))])) : Met l yX4_unitParts wsX4_unitParts ({ frames := 0, cells := 0, slots := 0, locals := 0 }) (va_Pc [.ref (ad b), .int (iI ((sy : Nat) : Int))] (nB G N ad w sz)) (nRd (.int (iI ((if sy = 0 then ra else rb : Nat) : Int)))) 0 0 (fun _ => False) := by
  refine n_ent (cc := cX4_unitParts) (maxL := 2) (ret := (some .int)) (by decide) rfl (Nat.le_of_ble_eq_true rfl) ?_
  intro p e s m below meth cd hx hb hr hml hlocks hts hown hnm hsz hP hK hI Q hQ ls hl
  have hown : s.vm.findClass RX4 = some m.cls := hown
  have hl : lv_has ls 2 [(0, .ref (ad b)), (1, .int (iI ((sy : Nat) : Int)))] := hl
  refine lv_iload_n hx hb dX4_unitParts_0 rfl (lv_at hl 1 rfl) ?_
  refine n_if_ne (tgt := 11) hx hb dX4_unitParts_1 (by decide) (by omega) (fun hc1 => ?_) (fun hc1 => ?_)
  · skip
    refine lv_aload_n hx hb dX4_unitParts_11 rfl (lv_at hl 0 rfl) ?_
    refine n_get hx hb hts u_X4 hown hK hP (by omega) f_L rfl 7 (by decide) (nT_m wf_X4_45) rfl dX4_unitParts_12 ?_
    exact n_iretR hQ hx hb hr hlocks (by rw [if_neg (by omega)]) dX4_unitParts_15
  · skip
    refine lv_aload_n hx hb dX4_unitParts_4 rfl (lv_at hl 0 rfl) ?_
    refine n_get hx hb hts u_X4 hown hK hP (by omega) f_L rfl 6 (by decide) (nT_m wf_X4_42) rfl dX4_unitParts_5 ?_
    refine lv_goto (tgt := 15) hx hb dX4_unitParts_8 (by decide) ?_
    exact n_iretR hQ hx hb hr hlocks (by rw [if_pos (by omega)]) dX4_unitParts_15
set_option maxHeartbeats 4000000 in
set_option maxRecDepth 100000 in
theorem c_X4_spareParts {l : Launch} {G : nG} {N : Nat} {ad : Nat → Nat} {w : Nat → va_E} {sz : Nat} (b tn ra rb stp : Nat) (sy cnt : Nat) (val : Nat → Nat) (pr k nn : Nat) (hN : b + 49 < N) (hs : sy < 2) (hc : cnt ≤ 8) (hval : ∀ k, val k ≤ 1000) (hk : k < cnt) (f_L : w b = .inr (4, [.ref (ad (b + 1)), .ref (ad (b + 5)), .ref (ad (b + 9)), .ref (ad (b + 12)), .ref (ad (b + 13)), .int (iI ((tn : Nat) : Int)), .int (iI ((ra : Nat) : Int)), .int (iI ((rb : Nat) : Int)), .int (iI ((stp : Nat) : Int))])) (f_o : w (b + 1 + 4 * sy) = .inr (1, [.int (iI ((cnt : Nat) : Int)), .ref (ad ((b + 1 + 4 * sy) + 1)), .ref (ad ((b + 1 + 4 * sy) + 2)), .ref (ad ((b + 1 + 4 * sy) + 3))])) (f_v : w ((b + 1 + 4 * sy) + 1) = aI G 8 (fun q => (val q : Int))) : Met l yX4_spareParts wsX4_spareParts ({ frames := 2, cells := 0, slots := 0, locals := 43 }) (va_Pc [.ref (ad b), .int (iI ((pr : Nat) : Int)), .int (iI ((sy : Nat) : Int)), .int (iI ((k : Nat) : Int)), .int (iI ((nn : Nat) : Int))] (nB G N ad w sz)) (nRd (.int (iI (((nn : Nat) : Int) * (val k : Int) * ((if sy = 0 then ra else rb : Nat) : Int) - ((pr : Nat) : Int) * ((rb : Nat) : Int))))) 0 0 (fun _ => False) := by
  refine n_ent (cc := cX4_spareParts) (maxL := 6) (ret := (some .int)) (by decide) rfl (Nat.le_of_ble_eq_true rfl) ?_
  intro p e s m below meth cd hx hb hr hml hlocks hts hown hnm hsz hP hK hI Q hQ ls hl
  have hown : s.vm.findClass RX4 = some m.cls := hown
  have hl : lv_has ls 6 [(0, .ref (ad b)), (1, .int (iI ((pr : Nat) : Int))), (2, .int (iI ((sy : Nat) : Int))), (3, .int (iI ((k : Nat) : Int))), (4, .int (iI ((nn : Nat) : Int)))] := hl
  refine lv_aload_n hx hb dX4_spareParts_0 rfl (lv_at hl 0 rfl) ?_
  refine lv_iload_n hx hb dX4_spareParts_1 rfl (lv_at hl 2 rfl) ?_
  refine n_rdF (va_runV (As := [.int (iI ((sy : Nat) : Int))]) (rest := []) ⟨hx, hb, hml, hown, hts⟩ (c_X4_coinageOf_y _ _ _ _ _ sy (by omega) (by omega) f_L) (cwV 1 hts (nT_V wl_X4_72 wi_X4_coinageOf ws_X4_coinageOf wn_X4 wc_X4_coinageOf) rfl rfl rfl (by decide +kernel) ⟨Nat.le_of_ble_eq_true rfl, Nat.le_of_ble_eq_true rfl⟩) (nB.preV hK hI hP (by omega) f_L rfl rfl) rfl rfl hl.1 rfl (lv_room (Nat.le_of_ble_eq_true rfl)) dX4_spareParts_2 ⟨Nat.zero_le _, Nat.zero_le _⟩) ?_
  refine lv_astore (lv' := [(5, .ref (ad (b + 1 + 4 * sy))), (0, .ref (ad b)), (1, .int (iI ((pr : Nat) : Int))), (2, .int (iI ((sy : Nat) : Int))), (3, .int (iI ((k : Nat) : Int))), (4, .int (iI ((nn : Nat) : Int)))]) hx hb dX4_spareParts_5 hl (by decide) rfl (fun ls hl => ?_)
  refine lv_aload hx hb dX4_spareParts_7 (lv_at hl 0 rfl) ?_
  refine lv_ifnull hx hb dX4_spareParts_9 ?_
  refine lv_aload hx hb dX4_spareParts_12 (lv_at hl 0 rfl) ?_
  refine lv_iload_n hx hb dX4_spareParts_14 rfl (lv_at hl 4 rfl) ?_
  refine n_rdF (va_runV (As := [.int (iI ((k : Nat) : Int))]) (rest := []) ⟨hx, hb, hml, hown, hts⟩ (c_X1_isCoin _ _ ((k : Nat) : Int) (by omega) (by omega) (by omega) f_o) (cwV 1 hts (nT_V wl_X4_76 wi_X1_isCoin ws_X1_isCoin wn_X1 wc_X1_isCoin) rfl rfl rfl (by decide +kernel) ⟨Nat.le_of_ble_eq_true rfl, Nat.le_of_ble_eq_true rfl⟩) (nB.preV hK hI hP (by omega) f_o rfl rfl) rfl rfl hl.1 rfl (lv_room (Nat.le_of_ble_eq_true rfl)) dX4_spareParts_15 ⟨Nat.zero_le _, Nat.zero_le _⟩) ?_
  refine n_if_neB (tgt := 23) hx hb dX4_spareParts_18 (by decide) (fun hc18 => ?_) (fun hc18 => ?_)
  · skip
    refine lv_iload hx hb dX4_spareParts_23 (lv_at hl 5 rfl) ?_
    refine lv_aload hx hb dX4_spareParts_25 (lv_at hl 0 rfl) ?_
    refine n_get hx hb hts u_X1 hown hK hP (by omega) f_o rfl 1 (by decide) (nT_m wf_X4_86) rfl dX4_spareParts_27 ?_
    refine lv_iload_n hx hb dX4_spareParts_30 rfl (lv_at hl 4 rfl) ?_
    refine n_iald hx hb hK hP k (by omega) f_v (by omega) (by omega) (by decide) dX4_spareParts_31 ?_
    have ho1 := hval k
    refine n_imul hx hb dX4_spareParts_32 ?_
    refine lv_aload_n hx hb dX4_spareParts_33 rfl (lv_at hl 1 rfl) ?_
    refine lv_iload_n hx hb dX4_spareParts_34 rfl (lv_at hl 3 rfl) ?_
    refine n_rdF (va_runV (As := [.int (iI ((sy : Nat) : Int))]) (rest := [.int (iI (((nn : Nat) : Int) * (val k : Int)))]) ⟨hx, hb, hml, hown, hts⟩ (c_X4_unitParts _ _ _ _ _ sy (by omega) (by omega) f_L) (cwV 1 hts (nT_V wl_X4_89 wi_X4_unitParts ws_X4_unitParts wn_X4 wc_X4_unitParts) rfl rfl rfl (by decide +kernel) ⟨Nat.le_of_ble_eq_true rfl, Nat.le_of_ble_eq_true rfl⟩) (nB.preV hK hI hP (by omega) f_L rfl rfl) rfl rfl hl.1 rfl (lv_room (Nat.le_of_ble_eq_true rfl)) dX4_spareParts_35 ⟨Nat.zero_le _, Nat.zero_le _⟩) ?_
    refine n_imul hx hb dX4_spareParts_38 ?_
    refine lv_iload_n hx hb dX4_spareParts_39 rfl (lv_at hl 2 rfl) ?_
    refine lv_aload_n hx hb dX4_spareParts_40 rfl (lv_at hl 1 rfl) ?_
    refine n_get hx hb hts u_X4 hown hK hP (by omega) f_L rfl 7 (by decide) (nT_m wf_X4_45) rfl dX4_spareParts_41 ?_
    refine n_imul hx hb dX4_spareParts_44 ?_
    refine n_isub hx hb dX4_spareParts_45 ?_
    exact n_iretR hQ hx hb hr hlocks rfl dX4_spareParts_46
  · skip
    exact absurd hc18 (by omega)
set_option maxHeartbeats 4000000 in
set_option maxRecDepth 100000 in
theorem c_X4_partsOf {l : Launch} {G : nG} {N : Nat} {ad : Nat → Nat} {w : Nat → va_E} {sz : Nat} (b tn ra rb stp : Nat) (sy cnt rw : Nat) (val ct : Nat → Nat) (hN : b + 49 < N) (htn : tn ≤ 4) (hra : 1 ≤ ra ∧ ra ≤ 100) (hrb : 1 ≤ rb ∧ rb ≤ 100) (hst : 1 ≤ stp ∧ stp ≤ 100) (hs : sy < 2) (hc : cnt ≤ 8) (hval : ∀ k, val k ≤ 1000) (hct : ∀ k, ct k ≤ 1000) (hrw : rw < N) (f_L : w b = .inr (4, [.ref (ad (b + 1)), .ref (ad (b + 5)), .ref (ad (b + 9)), .ref (ad (b + 12)), .ref (ad (b + 13)), .int (iI ((tn : Nat) : Int)), .int (iI ((ra : Nat) : Int)), .int (iI ((rb : Nat) : Int)), .int (iI ((stp : Nat) : Int))])) (f_o : w (b + 1 + 4 * sy) = .inr (1, [.int (iI ((cnt : Nat) : Int)), .ref (ad ((b + 1 + 4 * sy) + 1)), .ref (ad ((b + 1 + 4 * sy) + 2)), .ref (ad ((b + 1 + 4 * sy) + 3))])) (f_v : w ((b + 1 + 4 * sy) + 1) = aI G 8 (fun q => (val q : Int))) (f_c : w rw = aI G 8 (fun q => (ct q : Int))) : Met l yX4_partsOf wsX4_partsOf ({ frames := 1, cells := 0, slots := 0, locals := 21 }) (va_Pc [.ref (ad b), .int (iI ((sy : Nat) : Int)), .ref (ad rw)] (nB G N ad w sz)) (nRd (.long (jI (((sumP ct val cnt : Nat) : Int) * ((if sy = 0 then ra else rb : Nat) : Int))))) 0 0 (fun _ => False) := by
  refine n_ent (cc := cX4_partsOf) (maxL := 7) (ret := (some .long)) (by decide) rfl (Nat.le_of_ble_eq_true rfl) ?_
  intro p e s m below meth cd hx hb hr hml hlocks hts hown hnm hsz hP hK hI Q hQ ls hl
  have hown : s.vm.findClass RX4 = some m.cls := hown
  have hl : lv_has ls 7 [(0, .ref (ad b)), (1, .int (iI ((sy : Nat) : Int))), (2, .ref (ad rw))] := hl
  refine lv_aload_n hx hb dX4_partsOf_0 rfl (lv_at hl 0 rfl) ?_
  refine lv_iload_n hx hb dX4_partsOf_1 rfl (lv_at hl 1 rfl) ?_
  refine n_rdF (va_runV (As := [.int (iI ((sy : Nat) : Int))]) (rest := []) ⟨hx, hb, hml, hown, hts⟩ (c_X4_coinageOf_y _ _ _ _ _ sy (by omega) (by omega) f_L) (cwV 1 hts (nT_V wl_X4_72 wi_X4_coinageOf ws_X4_coinageOf wn_X4 wc_X4_coinageOf) rfl rfl rfl (by decide +kernel) ⟨Nat.le_of_ble_eq_true rfl, Nat.le_of_ble_eq_true rfl⟩) (nB.preV hK hI hP (by omega) f_L rfl rfl) rfl rfl hl.1 rfl (lv_room (Nat.le_of_ble_eq_true rfl)) dX4_partsOf_2 ⟨Nat.zero_le _, Nat.zero_le _⟩) ?_
  refine lv_astore_n (lv' := [(3, .ref (ad (b + 1 + 4 * sy))), (0, .ref (ad b)), (1, .int (iI ((sy : Nat) : Int))), (2, .ref (ad rw))]) hx hb dX4_partsOf_5 rfl hl (by decide) rfl (fun ls hl => ?_)
  refine n_lconst (z := 0) hx hb dX4_partsOf_6 (by decide) ?_
  refine lv_lstore (lv' := [(4, .long (jI 0)), (3, .ref (ad (b + 1 + 4 * sy))), (0, .ref (ad b)), (1, .int (iI ((sy : Nat) : Int))), (2, .ref (ad rw))]) hx hb dX4_partsOf_7 hl (by decide) rfl (fun ls hl => ?_)
  refine lv_aload_n hx hb dX4_partsOf_9 rfl (lv_at hl 1 rfl) ?_
  refine lv_ifnull hx hb dX4_partsOf_10 ?_
  refine n_iconst hx hb dX4_partsOf_13 ?_
  refine lv_istore (lv' := [(6, .int (iI 0)), (4, .long (jI 0)), (3, .ref (ad (b + 1 + 4 * sy))), (0, .ref (ad b)), (1, .int (iI ((sy : Nat) : Int))), (2, .ref (ad rw))]) hx hb dX4_partsOf_14 hl (by decide) rfl (fun ls hl => ?_)
  have lp1 : ∀ (fu : Nat), ∀ (q : Nat), ∀ (ls : Array Slot), cnt - q < fu → q ≤ cnt → lv_has ls 7 [(0, .ref (ad b)), (1, .int (iI ((sy : Nat) : Int))), (2, .ref (ad rw)), (3, .ref (ad (b + 1 + 4 * sy))), (4, .long (jI ((sumP ct val q : Nat) : Int))), (6, .int (iI ((q : Nat) : Int)))] → W p l e ({ frames := 1, cells := 0, slots := 0, locals := 21 } : Room) s m ([.ref (ad b), .int (iI ((sy : Nat) : Int)), .ref (ad rw)] : List Value).toArray below meth cd s.heap [] 0 0 Q (F0 m 16 ls []) := by
    intro fu
    induction fu with
    | zero =>
      intro q ls hfu hq hl
      exact absurd hfu (Nat.not_lt_zero _)
    | succ fu ih2 =>
      intro q ls hfu hq hl
      refine lv_iload hx hb dX4_partsOf_16 (lv_at hl 5 rfl) ?_
      refine lv_aload_n hx hb dX4_partsOf_18 rfl (lv_at hl 3 rfl) ?_
      refine n_get hx hb hts u_X1 hown hK hP (by omega) f_o rfl 0 (by decide) (nT_m wf_X4_93) rfl dX4_partsOf_19 ?_
      refine n_icmp_ge (tgt := 50) hx hb dX4_partsOf_22 (by decide) (by omega) (by omega) (fun hc22 => ?_) (fun hc22 => ?_)
      · skip
        refine lv_lload hx hb dX4_partsOf_50 (lv_at hl 4 rfl) ?_
        refine lv_aload_n hx hb dX4_partsOf_52 rfl (lv_at hl 0 rfl) ?_
        refine lv_iload_n hx hb dX4_partsOf_53 rfl (lv_at hl 1 rfl) ?_
        refine n_rdF (va_runV (As := [.int (iI ((sy : Nat) : Int))]) (rest := [.long (jI ((sumP ct val q : Nat) : Int))]) ⟨hx, hb, hml, hown, hts⟩ (c_X4_unitParts _ _ _ _ _ sy (by omega) (by omega) f_L) (cwV 1 hts (nT_V wl_X4_89 wi_X4_unitParts ws_X4_unitParts wn_X4 wc_X4_unitParts) rfl rfl rfl (by decide +kernel) ⟨Nat.le_of_ble_eq_true rfl, Nat.le_of_ble_eq_true rfl⟩) (nB.preV hK hI hP (by omega) f_L rfl rfl) rfl rfl hl.1 rfl (lv_room (Nat.le_of_ble_eq_true rfl)) dX4_partsOf_54 ⟨Nat.zero_le _, Nat.zero_le _⟩) ?_
        have hun : (if sy = 0 then ra else rb) ≤ 100 := by split <;> omega
        refine n_i2l hx hb dX4_partsOf_57 (by omega) ?_
        refine n_lmul hx hb dX4_partsOf_58 ?_
        exact n_lretR hQ hx hb hr hlocks (by rw [show q = cnt by omega]) dX4_partsOf_59
      · skip
        refine lv_lload hx hb dX4_partsOf_25 (lv_at hl 4 rfl) ?_
        refine lv_aload_n hx hb dX4_partsOf_27 rfl (lv_at hl 2 rfl) ?_
        refine lv_iload hx hb dX4_partsOf_28 (lv_at hl 5 rfl) ?_
        refine n_iald hx hb hK hP q (by omega) f_c (by omega) (by omega) (by decide) dX4_partsOf_30 ?_
        have ho3 := hct q
        refine n_i2l hx hb dX4_partsOf_31 (by omega) ?_
        refine lv_aload_n hx hb dX4_partsOf_32 rfl (lv_at hl 3 rfl) ?_
        refine n_get hx hb hts u_X1 hown hK hP (by omega) f_o rfl 1 (by decide) (nT_m wf_X4_86) rfl dX4_partsOf_33 ?_
        refine lv_iload hx hb dX4_partsOf_36 (lv_at hl 5 rfl) ?_
        refine n_iald hx hb hK hP q (by omega) f_v (by omega) (by omega) (by decide) dX4_partsOf_38 ?_
        have ho4 := hval q
        refine n_i2l hx hb dX4_partsOf_39 (by omega) ?_
        refine n_lmul hx hb dX4_partsOf_40 ?_
        refine n_ladd hx hb dX4_partsOf_41 ?_
        refine lv_lstore (lv' := [(4, .long (jI (((sumP ct val q : Nat) : Int) + ((ct q : Int) * (val q : Int))))), (0, .ref (ad b)), (1, .int (iI ((sy : Nat) : Int))), (2, .ref (ad rw)), (3, .ref (ad (b + 1 + 4 * sy))), (6, .int (iI ((q : Nat) : Int)))]) hx hb dX4_partsOf_42 hl (by decide) rfl (fun ls hl => ?_)
        refine lv_iinc (v := iI (((q : Nat) : Int) + 1)) (lv' := [(6, .int (iI (((q : Nat) : Int) + 1))), (4, .long (jI (((sumP ct val q : Nat) : Int) + ((ct q : Int) * (val q : Int))))), (0, .ref (ad b)), (1, .int (iI ((sy : Nat) : Int))), (2, .ref (ad rw)), (3, .ref (ad (b + 1 + 4 * sy)))]) hx hb dX4_partsOf_44 hl (k := 5) rfl (by first | exact iI_add _ _ | exact (iI_add _ _).trans (congrArg iI (by omega))) (by decide) rfl (fun ls hl => ?_)
        refine lv_goto (tgt := 16) hx hb dX4_partsOf_47 (by decide) ?_
        exact ih2 (q + 1) _ (by omega) (by omega) (by first | exact lv_sub hl [2, 3, 4, 5, 1, 0] rfl | exact lv_cast (lv_sub (l' := [(0, .ref (ad b)), (1, .int (iI ((sy : Nat) : Int))), (2, .ref (ad rw)), (3, .ref (ad (b + 1 + 4 * sy))), (4, .long (jI (((sumP ct val q : Nat) : Int) + ((ct q : Int) * (val q : Int))))), (6, .int (iI (((q : Nat) : Int) + 1)))]) hl [2, 3, 4, 5, 1, 0] rfl) (lc_s (lc_s (lc_s (lc_s (lc_j (show ((((sumP ct val q : Nat) : Int) + ((ct q : Int) * (val q : Int))) : Int) = ((sumP ct val (q + 1) : Nat) : Int) by rfl) (lc_i (show ((((q : Nat) : Int) + 1) : Int) = (((q + 1) : Nat) : Int) by omega) rfl)))))))
  exact lp1 (cnt - 0 + 1) 0 _ (Nat.lt_succ_self _) (by omega) (by first | exact lv_sub hl [3, 4, 5, 2, 1, 0] rfl | exact lv_cast (lv_sub (l' := [(0, .ref (ad b)), (1, .int (iI ((sy : Nat) : Int))), (2, .ref (ad rw)), (3, .ref (ad (b + 1 + 4 * sy))), (4, .long (jI 0)), (6, .int (iI 0))]) hl [3, 4, 5, 2, 1, 0] rfl) (lc_s (lc_s (lc_s (lc_s (lc_j (show (0 : Int) = ((sumP ct val 0 : Nat) : Int) by omega) (lc_i (show (0 : Int) = ((0 : Nat) : Int) by omega) rfl)))))))
set_option maxHeartbeats 4000000 in
set_option maxRecDepth 100000 in
theorem c_X4_roundsUp {l : Launch} (ru st ov sp : Nat) (hru : ru ≤ 3) (hst : st < 1073741824) (hov : ov < 1073741824) (hsp : sp < 1073741824) : Met l yX4_roundsUp wsX4_roundsUp ({ frames := 0, cells := 0, slots := 0, locals := 0 }) (fun v _ => v = ([.int (iI ((ru : Nat) : Int)), .int (iI ((st : Nat) : Int)), .int (iI ((ov : Nat) : Int)), .int (iI ((sp : Nat) : Int))] : List Value).toArray) (nRd (.int (iI (bI (nUp ru st ov sp = true))))) 0 0 (fun _ => False) := by
  refine n_ent0 (cc := cX4_roundsUp) (maxL := 4) (ret := (some .boolean)) (by decide) rfl (Nat.le_of_ble_eq_true rfl) ?_
  intro p e s m below meth cd hx hb hr hml hlocks hts hown Q hQ ls hl
  have hown : s.vm.findClass RX4 = some m.cls := hown
  have hl : lv_has ls 4 [(0, .int (iI ((ru : Nat) : Int))), (1, .int (iI ((st : Nat) : Int))), (2, .int (iI ((ov : Nat) : Int))), (3, .int (iI ((sp : Nat) : Int)))] := hl
  refine lv_iload_n hx hb dX4_roundsUp_0 rfl (lv_at hl 0 rfl) ?_
  by_cases hsw1 : ((ru : Nat) : Int) = 1
  · skip
    refine lv_tableIn (tgt := 28) (off := 27) hx hb dX4_roundsUp_1 (by rw [iI_T (by omega)]; omega) (by rw [iI_T (by omega)]; omega) (by rw [iI_T (by omega), hsw1]; rfl) (by decide) ?_
    refine lv_iload_n hx hb dX4_roundsUp_28 rfl (lv_at hl 2 rfl) ?_
    refine n_if_le (tgt := 36) hx hb dX4_roundsUp_29 (by decide) (by omega) (fun hc29 => ?_) (fun hc29 => ?_)
    · skip
      refine n_iconst hx hb dX4_roundsUp_36 ?_
      exact n_zretR hQ hx hb hr hlocks (by rw [show ru = 1 by omega]; unfold bI; simp [nUp] <;> omega) dX4_roundsUp_37
    · skip
      refine n_iconst hx hb dX4_roundsUp_32 ?_
      refine lv_goto (tgt := 37) hx hb dX4_roundsUp_33 (by decide) ?_
      exact n_zretR hQ hx hb hr hlocks (by rw [show ru = 1 by omega]; unfold bI; simp [nUp] <;> omega) dX4_roundsUp_37
  by_cases hsw2 : ((ru : Nat) : Int) = 2
  · skip
    refine lv_tableIn (tgt := 38) (off := 37) hx hb dX4_roundsUp_1 (by rw [iI_T (by omega)]; omega) (by rw [iI_T (by omega)]; omega) (by rw [iI_T (by omega), hsw2]; rfl) (by decide) ?_
    refine n_iconst hx hb dX4_roundsUp_38 ?_
    refine lv_iload_n hx hb dX4_roundsUp_39 rfl (lv_at hl 2 rfl) ?_
    refine n_imul hx hb dX4_roundsUp_40 ?_
    refine lv_iload_n hx hb dX4_roundsUp_41 rfl (lv_at hl 3 rfl) ?_
    refine n_icmp_lt (tgt := 49) hx hb dX4_roundsUp_42 (by decide) (by omega) (by omega) (fun hc42 => ?_) (fun hc42 => ?_)
    · skip
      refine n_iconst hx hb dX4_roundsUp_49 ?_
      exact n_zretR hQ hx hb hr hlocks (by rw [show ru = 2 by omega]; unfold bI; simp [nUp] <;> omega) dX4_roundsUp_50
    · skip
      refine n_iconst hx hb dX4_roundsUp_45 ?_
      refine lv_goto (tgt := 50) hx hb dX4_roundsUp_46 (by decide) ?_
      exact n_zretR hQ hx hb hr hlocks (by rw [show ru = 2 by omega]; unfold bI; simp [nUp] <;> omega) dX4_roundsUp_50
  by_cases hsw3 : ((ru : Nat) : Int) = 3
  · skip
    refine lv_tableIn (tgt := 51) (off := 50) hx hb dX4_roundsUp_1 (by rw [iI_T (by omega)]; omega) (by rw [iI_T (by omega)]; omega) (by rw [iI_T (by omega), hsw3]; rfl) (by decide) ?_
    refine n_iconst hx hb dX4_roundsUp_51 ?_
    refine lv_iload_n hx hb dX4_roundsUp_52 rfl (lv_at hl 2 rfl) ?_
    refine n_imul hx hb dX4_roundsUp_53 ?_
    refine lv_iload_n hx hb dX4_roundsUp_54 rfl (lv_at hl 3 rfl) ?_
    refine n_icmp_gt (tgt := 72) hx hb dX4_roundsUp_55 (by decide) (by omega) (by omega) (fun hc55 => ?_) (fun hc55 => ?_)
    · skip
      refine n_iconst hx hb dX4_roundsUp_72 ?_
      refine lv_goto (tgt := 77) hx hb dX4_roundsUp_73 (by decide) ?_
      exact n_zretR hQ hx hb hr hlocks (by rw [show ru = 3 by omega]; unfold bI; simp [nUp] <;> omega) dX4_roundsUp_77
    · skip
      refine n_iconst hx hb dX4_roundsUp_58 ?_
      refine lv_iload_n hx hb dX4_roundsUp_59 rfl (lv_at hl 2 rfl) ?_
      refine n_imul hx hb dX4_roundsUp_60 ?_
      refine lv_iload_n hx hb dX4_roundsUp_61 rfl (lv_at hl 3 rfl) ?_
      refine n_icmp_ne (tgt := 76) hx hb dX4_roundsUp_62 (by decide) (by omega) (by omega) (fun hc62 => ?_) (fun hc62 => ?_)
      · skip
        refine n_iconst hx hb dX4_roundsUp_76 ?_
        exact n_zretR hQ hx hb hr hlocks (by rw [show ru = 3 by omega]; unfold bI; simp [nUp] <;> omega) dX4_roundsUp_77
      · skip
        refine lv_iload_n hx hb dX4_roundsUp_65 rfl (lv_at hl 1 rfl) ?_
        refine n_iconst hx hb dX4_roundsUp_66 ?_
        refine n_iand1 hx hb st dX4_roundsUp_67 (by omega) (by omega) ?_
        refine n_iconst hx hb dX4_roundsUp_68 ?_
        refine n_icmp_ne (tgt := 76) hx hb dX4_roundsUp_69 (by decide) (by omega) (by omega) (fun hc69 => ?_) (fun hc69 => ?_)
        · skip
          refine n_iconst hx hb dX4_roundsUp_76 ?_
          exact n_zretR hQ hx hb hr hlocks (by rw [show ru = 3 by omega]; unfold bI; simp [nUp] <;> omega) dX4_roundsUp_77
        · skip
          refine n_iconst hx hb dX4_roundsUp_72 ?_
          refine lv_goto (tgt := 77) hx hb dX4_roundsUp_73 (by decide) ?_
          exact n_zretR hQ hx hb hr hlocks (by rw [show ru = 3 by omega]; unfold bI; simp [nUp] <;> omega) dX4_roundsUp_77
  refine lv_tableOut (tgt := 78) hx hb dX4_roundsUp_1 (by rw [iI_T (by omega)]; omega) (by decide) ?_
  refine n_iconst hx hb dX4_roundsUp_78 ?_
  exact n_zretR hQ hx hb hr hlocks (by rw [show ru = 0 by omega]; unfold bI; simp [nUp] <;> omega) dX4_roundsUp_79
set_option maxHeartbeats 4000000 in
set_option maxRecDepth 100000 in
theorem c_X4_newPrice {l : Launch} {G : nG} {N : Nat} {ad : Nat → Nat} {w : Nat → va_E} {sz : Nat} (b tn ra rb stp : Nat) (gn : Nat) (gp gt : Nat → Nat) (gd ru : Nat) (hN : b + 49 < N) (htn : tn ≤ 4) (hra : 1 ≤ ra ∧ ra ≤ 100) (hrb : 1 ≤ rb ∧ rb ≤ 100) (hst : 1 ≤ stp ∧ stp ≤ 100) (hgp : ∀ k, gp k ≤ 10000) (hgt : ∀ k, gt k ≤ 100) (hg : gd < gn ∧ gn ≤ 14) (hru : ru ≤ 3) (f_L : w b = .inr (4, [.ref (ad (b + 1)), .ref (ad (b + 5)), .ref (ad (b + 9)), .ref (ad (b + 12)), .ref (ad (b + 13)), .int (iI ((tn : Nat) : Int)), .int (iI ((ra : Nat) : Int)), .int (iI ((rb : Nat) : Int)), .int (iI ((stp : Nat) : Int))])) (f_g : w (b + 9) = .inr (3, [.int (iI ((gn : Nat) : Int)), .ref (ad ((b + 9) + 1)), .ref (ad ((b + 9) + 2))])) (f_gp : w ((b + 9) + 1) = aI G 14 (fun q => (gp q : Int))) : Met l yX4_newPrice wsX4_newPrice ({ frames := 1, cells := 0, slots := 0, locals := 23 }) (va_Pc [.ref (ad b), .int (iI ((gd : Nat) : Int)), .int (iI ((ru : Nat) : Int))] (nB G N ad w sz)) (nRd (.int (iI ((nPr (gp gd * ra) (stp * rb) stp ru : Nat) : Int)))) 0 0 (fun _ => False) := by
  refine n_ent (cc := cX4_newPrice) (maxL := 7) (ret := (some .int)) (by decide) rfl (Nat.le_of_ble_eq_true rfl) ?_
  intro p e s m below meth cd hx hb hr hml hlocks hts hown hnm hsz hP hK hI Q hQ ls hl
  have hown : s.vm.findClass RX4 = some m.cls := hown
  have hl : lv_has ls 7 [(0, .ref (ad b)), (1, .int (iI ((gd : Nat) : Int))), (2, .int (iI ((ru : Nat) : Int)))] := hl
  have hpa : gp gd * ra ≤ 10000 * 100 := Nat.mul_le_mul (hgp gd) hra.2
  have hsp1 : stp * rb ≤ 100 * 100 := Nat.mul_le_mul hst.2 hrb.2
  have hsp0 : 1 * 1 ≤ stp * rb := Nat.mul_le_mul hst.1 hrb.1
  have hdl : gp gd * ra / (stp * rb) ≤ gp gd * ra := Nat.div_le_self _ _
  have hml9 : gp gd * ra % (stp * rb) < stp * rb := Nat.mod_lt _ (by omega)
  refine lv_aload_n hx hb dX4_newPrice_0 rfl (lv_at hl 0 rfl) ?_
  refine n_get hx hb hts u_X4 hown hK hP (by omega) f_L rfl 2 (by decide) (nT_m wf_X4_24) rfl dX4_newPrice_1 ?_
  refine n_get hx hb hts u_X3 hown hK hP (by omega) f_g rfl 1 (by decide) (nT_m wf_X4_96) rfl dX4_newPrice_4 ?_
  refine lv_iload_n hx hb dX4_newPrice_7 rfl (lv_at hl 1 rfl) ?_
  refine n_iald hx hb hK hP gd (by omega) f_gp (by omega) (by omega) (by decide) dX4_newPrice_8 ?_
  have ho1 := hgp gd
  refine lv_aload_n hx hb dX4_newPrice_9 rfl (lv_at hl 0 rfl) ?_
  refine n_get hx hb hts u_X4 hown hK hP (by omega) f_L rfl 6 (by decide) (nT_m wf_X4_42) rfl dX4_newPrice_10 ?_
  refine n_imul hx hb dX4_newPrice_13 ?_
  refine lv_istore_n (lv' := [(3, .int (iI ((gp gd * ra : Nat) : Int))), (0, .ref (ad b)), (1, .int (iI ((gd : Nat) : Int))), (2, .int (iI ((ru : Nat) : Int)))]) hx hb dX4_newPrice_14 rfl hl (by decide) rfl (fun ls hl => ?_)
  refine lv_aload_n hx hb dX4_newPrice_15 rfl (lv_at hl 1 rfl) ?_
  refine n_get hx hb hts u_X4 hown hK hP (by omega) f_L rfl 8 (by decide) (nT_m wf_X4_48) rfl dX4_newPrice_16 ?_
  refine lv_aload_n hx hb dX4_newPrice_19 rfl (lv_at hl 1 rfl) ?_
  refine n_get hx hb hts u_X4 hown hK hP (by omega) f_L rfl 7 (by decide) (nT_m wf_X4_45) rfl dX4_newPrice_20 ?_
  refine n_imul hx hb dX4_newPrice_23 ?_
  refine lv_istore (lv' := [(4, .int (iI ((stp * rb : Nat) : Int))), (3, .int (iI ((gp gd * ra : Nat) : Int))), (0, .ref (ad b)), (1, .int (iI ((gd : Nat) : Int))), (2, .int (iI ((ru : Nat) : Int)))]) hx hb dX4_newPrice_24 hl (by decide) rfl (fun ls hl => ?_)
  refine lv_iload_n hx hb dX4_newPrice_26 rfl (lv_at hl 1 rfl) ?_
  refine lv_iload hx hb dX4_newPrice_27 (lv_at hl 0 rfl) ?_
  refine n_rdF (v := .int (iI (((gp gd * ra) / (stp * rb) : Nat) : Int))) (va_runSN (As := [.int (iI ((gp gd * ra : Nat) : Int)), .int (iI ((stp * rb : Nat) : Int))]) (rest := []) ⟨hx, hb, hml, hown, hts⟩ (c_X6_wholeTimes ((gp gd * ra : Nat) : Int) ((stp * rb : Nat) : Int) (by omega) (by omega)) ⟨va_cnB 2 hts (nT_N wc_X6_wholeTimes) rfl rfl rfl (hK.2 _ (List.mem_of_getElem? (i := 6) rfl)) (hts _ (nT_m wn_X6)) (by decide +kernel) ⟨Nat.le_of_ble_eq_true rfl, Nat.le_of_ble_eq_true rfl⟩, hts _ (nT_m wt_X6_wholeTimes), trivial⟩ preEq rfl rfl hl.1 rfl (lv_room (Nat.le_of_ble_eq_true rfl)) dX4_newPrice_29 ⟨Nat.zero_le _, Nat.zero_le _⟩) ?_
  refine lv_istore (lv' := [(5, .int (iI ((gp gd * ra / (stp * rb) : Nat) : Int))), (4, .int (iI ((stp * rb : Nat) : Int))), (3, .int (iI ((gp gd * ra : Nat) : Int))), (0, .ref (ad b)), (1, .int (iI ((gd : Nat) : Int))), (2, .int (iI ((ru : Nat) : Int)))]) hx hb dX4_newPrice_32 hl (by decide) rfl (fun ls hl => ?_)
  refine lv_iload_n hx hb dX4_newPrice_34 rfl (lv_at hl 2 rfl) ?_
  refine lv_iload hx hb dX4_newPrice_35 (lv_at hl 0 rfl) ?_
  refine lv_iload hx hb dX4_newPrice_37 (lv_at hl 1 rfl) ?_
  refine n_imul hx hb dX4_newPrice_39 ?_
  refine n_isub hx hb dX4_newPrice_40 ?_
  refine lv_istore (lv' := [(6, .int (iI ((gp gd * ra % (stp * rb) : Nat) : Int))), (5, .int (iI ((gp gd * ra / (stp * rb) : Nat) : Int))), (4, .int (iI ((stp * rb : Nat) : Int))), (3, .int (iI ((gp gd * ra : Nat) : Int))), (0, .ref (ad b)), (1, .int (iI ((gd : Nat) : Int))), (2, .int (iI ((ru : Nat) : Int)))]) hx hb dX4_newPrice_41 hl (by decide) (by rw [nmodN]; rfl) (fun ls hl => ?_)
  refine lv_iload_n hx hb dX4_newPrice_43 rfl (lv_at hl 6 rfl) ?_
  refine lv_iload hx hb dX4_newPrice_44 (lv_at hl 1 rfl) ?_
  refine lv_iload hx hb dX4_newPrice_46 (lv_at hl 0 rfl) ?_
  refine lv_iload hx hb dX4_newPrice_48 (lv_at hl 2 rfl) ?_
  refine n_rdF (va_runS (As := [.int (iI ((ru : Nat) : Int)), .int (iI ((gp gd * ra / (stp * rb) : Nat) : Int)), .int (iI ((gp gd * ra % (stp * rb) : Nat) : Int)), .int (iI ((stp * rb : Nat) : Int))]) (rest := []) ⟨hx, hb, hml, hown, hts⟩ (c_X4_roundsUp ru (gp gd * ra / (stp * rb)) (gp gd * ra % (stp * rb)) (stp * rb) (by omega) (by omega) (by omega) (by omega)) (va_cwS 4 hts (nT_S wl_X4_103 wt_X4_roundsUp wn_X4 wc_X4_roundsUp) rfl rfl rfl (by decide +kernel) ⟨Nat.le_of_ble_eq_true rfl, Nat.le_of_ble_eq_true rfl⟩) preEq rfl rfl hl.1 rfl (lv_room (Nat.le_of_ble_eq_true rfl)) dX4_newPrice_50 ⟨Nat.zero_le _, Nat.zero_le _⟩) ?_
  refine n_if_eqB (tgt := 63) hx hb dX4_newPrice_53 (by decide) (fun hc53 => ?_) (fun hc53 => ?_)
  · skip
    refine lv_iload hx hb dX4_newPrice_63 (lv_at hl 1 rfl) ?_
    refine lv_aload_n hx hb dX4_newPrice_65 rfl (lv_at hl 4 rfl) ?_
    refine n_get hx hb hts u_X4 hown hK hP (by omega) f_L rfl 8 (by decide) (nT_m wf_X4_48) rfl dX4_newPrice_66 ?_
    refine n_imul hx hb dX4_newPrice_69 ?_
    exact n_iretR hQ hx hb hr hlocks (by unfold nPr; rw [if_neg hc53]; rfl) dX4_newPrice_70
  · skip
    refine lv_iload hx hb dX4_newPrice_56 (lv_at hl 1 rfl) ?_
    refine n_iconst hx hb dX4_newPrice_58 ?_
    refine n_iadd hx hb dX4_newPrice_59 ?_
    refine lv_goto (tgt := 65) hx hb dX4_newPrice_60 (by decide) ?_
    refine lv_aload_n hx hb dX4_newPrice_65 rfl (lv_at hl 4 rfl) ?_
    refine n_get hx hb hts u_X4 hown hK hP (by omega) f_L rfl 8 (by decide) (nT_m wf_X4_48) rfl dX4_newPrice_66 ?_
    refine n_imul hx hb dX4_newPrice_69 ?_
    exact n_iretR hQ hx hb hr hlocks (by unfold nPr; rw [if_pos hc53]; rfl) dX4_newPrice_70
set_option maxHeartbeats 4000000 in
set_option maxRecDepth 100000 in
theorem c_X4_gainOf {l : Launch} {G : nG} {N : Nat} {ad : Nat → Nat} {w : Nat → va_E} {sz : Nat} (b tn ra rb stp : Nat) (gn : Nat) (gp gt : Nat → Nat) (gd ru : Nat) (hN : b + 49 < N) (htn : tn ≤ 4) (hra : 1 ≤ ra ∧ ra ≤ 100) (hrb : 1 ≤ rb ∧ rb ≤ 100) (hst : 1 ≤ stp ∧ stp ≤ 100) (hgp : ∀ k, gp k ≤ 10000) (hgt : ∀ k, gt k ≤ 100) (hg : gd < gn ∧ gn ≤ 14) (hru : ru ≤ 3) (f_L : w b = .inr (4, [.ref (ad (b + 1)), .ref (ad (b + 5)), .ref (ad (b + 9)), .ref (ad (b + 12)), .ref (ad (b + 13)), .int (iI ((tn : Nat) : Int)), .int (iI ((ra : Nat) : Int)), .int (iI ((rb : Nat) : Int)), .int (iI ((stp : Nat) : Int))])) (f_g : w (b + 9) = .inr (3, [.int (iI ((gn : Nat) : Int)), .ref (ad ((b + 9) + 1)), .ref (ad ((b + 9) + 2))])) (f_gp : w ((b + 9) + 1) = aI G 14 (fun q => (gp q : Int))) (f_gt : w ((b + 9) + 2) = aI G 14 (fun q => (gt q : Int))) : Met l yX4_gainOf wsX4_gainOf ({ frames := 2, cells := 0, slots := 0, locals := 49 }) (va_Pc [.ref (ad b), .int (iI ((gd : Nat) : Int)), .int (iI ((ru : Nat) : Int))] (nB G N ad w sz)) (nRd (.long (jI ((((nPr (gp gd * ra) (stp * rb) stp ru : Nat) : Int) * ((rb : Nat) : Int) - (gp gd : Int) * ((ra : Nat) : Int)) * (gt gd : Int))))) 0 0 (fun _ => False) := by
  refine n_ent (cc := cX4_gainOf) (maxL := 5) (ret := (some .long)) (by decide) rfl (Nat.le_of_ble_eq_true rfl) ?_
  intro p e s m below meth cd hx hb hr hml hlocks hts hown hnm hsz hP hK hI Q hQ ls hl
  have hown : s.vm.findClass RX4 = some m.cls := hown
  have hl : lv_has ls 5 [(0, .ref (ad b)), (1, .int (iI ((gd : Nat) : Int))), (2, .int (iI ((ru : Nat) : Int)))] := hl
  refine lv_aload_n hx hb dX4_gainOf_0 rfl (lv_at hl 0 rfl) ?_
  refine lv_iload_n hx hb dX4_gainOf_1 rfl (lv_at hl 1 rfl) ?_
  refine lv_iload_n hx hb dX4_gainOf_2 rfl (lv_at hl 2 rfl) ?_
  refine n_rdF (va_runV (As := [.int (iI ((gd : Nat) : Int)), .int (iI ((ru : Nat) : Int))]) (rest := []) ⟨hx, hb, hml, hown, hts⟩ (c_X4_newPrice _ _ _ _ _ _ gp gt gd ru (by omega) htn hra hrb hst hgp hgt (by omega) (by omega) f_L f_g f_gp) (cwV 2 hts (nT_V wl_X4_107 wi_X4_newPrice ws_X4_newPrice wn_X4 wc_X4_newPrice) rfl rfl rfl (by decide +kernel) ⟨Nat.le_of_ble_eq_true rfl, Nat.le_of_ble_eq_true rfl⟩) (nB.preV hK hI hP (by omega) f_L rfl rfl) rfl rfl hl.1 rfl (lv_room (Nat.le_of_ble_eq_true rfl)) dX4_gainOf_3 ⟨Nat.zero_le _, Nat.zero_le _⟩) ?_
  have hnp := nPr_rng (sp := stp * rb) (ru := ru) (Nat.mul_le_mul (hgp gd) hra.2) hst.2
  refine n_i2l hx hb dX4_gainOf_6 (by omega) ?_
  refine lv_aload_n hx hb dX4_gainOf_7 rfl (lv_at hl 0 rfl) ?_
  refine n_get hx hb hts u_X4 hown hK hP (by omega) f_L rfl 7 (by decide) (nT_m wf_X4_45) rfl dX4_gainOf_8 ?_
  refine n_i2l hx hb dX4_gainOf_11 (by omega) ?_
  refine n_lmul hx hb dX4_gainOf_12 ?_
  refine lv_aload_n hx hb dX4_gainOf_13 rfl (lv_at hl 0 rfl) ?_
  refine n_get hx hb hts u_X4 hown hK hP (by omega) f_L rfl 2 (by decide) (nT_m wf_X4_24) rfl dX4_gainOf_14 ?_
  refine n_get hx hb hts u_X3 hown hK hP (by omega) f_g rfl 1 (by decide) (nT_m wf_X4_96) rfl dX4_gainOf_17 ?_
  refine lv_iload_n hx hb dX4_gainOf_20 rfl (lv_at hl 1 rfl) ?_
  refine n_iald hx hb hK hP gd (by omega) f_gp (by omega) (by omega) (by decide) dX4_gainOf_21 ?_
  have ho1 := hgp gd
  refine n_i2l hx hb dX4_gainOf_22 (by omega) ?_
  refine lv_aload_n hx hb dX4_gainOf_23 rfl (lv_at hl 0 rfl) ?_
  refine n_get hx hb hts u_X4 hown hK hP (by omega) f_L rfl 6 (by decide) (nT_m wf_X4_42) rfl dX4_gainOf_24 ?_
  refine n_i2l hx hb dX4_gainOf_27 (by omega) ?_
  refine n_lmul hx hb dX4_gainOf_28 ?_
  refine n_lsub hx hb dX4_gainOf_29 ?_
  refine lv_lstore_n (lv' := [(3, .long (jI ((((nPr (gp gd * ra) (stp * rb) stp ru : Nat) : Int) * ((rb : Nat) : Int)) - ((gp gd : Int) * ((ra : Nat) : Int))))), (0, .ref (ad b)), (1, .int (iI ((gd : Nat) : Int))), (2, .int (iI ((ru : Nat) : Int)))]) hx hb dX4_gainOf_30 rfl hl (by decide) rfl (fun ls hl => ?_)
  refine lv_lload_n hx hb dX4_gainOf_31 rfl (lv_at hl 0 rfl) ?_
  refine lv_aload_n hx hb dX4_gainOf_32 rfl (lv_at hl 1 rfl) ?_
  refine n_get hx hb hts u_X4 hown hK hP (by omega) f_L rfl 2 (by decide) (nT_m wf_X4_24) rfl dX4_gainOf_33 ?_
  refine n_get hx hb hts u_X3 hown hK hP (by omega) f_g rfl 2 (by decide) (nT_m wf_X4_110) rfl dX4_gainOf_36 ?_
  refine lv_iload_n hx hb dX4_gainOf_39 rfl (lv_at hl 2 rfl) ?_
  refine n_iald hx hb hK hP gd (by omega) f_gt (by omega) (by omega) (by decide) dX4_gainOf_40 ?_
  have ho2 := hgt gd
  refine n_i2l hx hb dX4_gainOf_41 (by omega) ?_
  refine n_lmul hx hb dX4_gainOf_42 ?_
  exact n_lretR hQ hx hb hr hlocks rfl dX4_gainOf_43
theorem c_X3_isGoodW10 {l : Launch} {G : nG} {N : Nat} {ad : Nat → Nat} {w : Nat → va_E} {sz : Nat} (i gn : Nat) (z : Int) (hN : i + 2 < N) (hc : gn ≤ 14) (hz : -2147483648 ≤ z ∧ z < 2147483648) (f_g : w i = .inr (3, [.int (iI ((gn : Nat) : Int)), .ref (ad (i + 1)), .ref (ad (i + 2))])) : Met l yX3_isGood wsX3_isGood ({ frames := 1, cells := 0, slots := 0, locals := 22 }) (va_Pc [.ref (ad i), .int (iI (z - 10))] (nB G N ad w sz)) (nRd (.int (iI (bI (10 ≤ z ∧ z < 10 + (gn : Int)))))) 0 0 (fun _ => False) := by
  by_cases h : -2147483648 ≤ z - 10
  · have e1 : bI (10 ≤ z ∧ z < 10 + (gn : Int)) = bI (0 ≤ z - 10 ∧ z - 10 < (gn : Int)) := bI_c (by omega)
    rw [e1]
    exact c_X3_isGood i gn (z - 10) hN hc (by omega) f_g
  · have e1 : bI (10 ≤ z ∧ z < 10 + (gn : Int)) = bI (0 ≤ z - 10 + 4294967296 ∧ z - 10 + 4294967296 < (gn : Int)) := bI_c (by omega)
    rw [e1, ← iI_wrap (z - 10)]
    exact c_X3_isGood i gn (z - 10 + 4294967296) hN hc (by omega) f_g
theorem c_X3_isGoodW30 {l : Launch} {G : nG} {N : Nat} {ad : Nat → Nat} {w : Nat → va_E} {sz : Nat} (i gn : Nat) (z : Int) (hN : i + 2 < N) (hc : gn ≤ 14) (hz : -2147483648 ≤ z ∧ z < 2147483648) (f_g : w i = .inr (3, [.int (iI ((gn : Nat) : Int)), .ref (ad (i + 1)), .ref (ad (i + 2))])) : Met l yX3_isGood wsX3_isGood ({ frames := 1, cells := 0, slots := 0, locals := 22 }) (va_Pc [.ref (ad i), .int (iI (z - 30))] (nB G N ad w sz)) (nRd (.int (iI (bI (30 ≤ z ∧ z < 30 + (gn : Int)))))) 0 0 (fun _ => False) := by
  by_cases h : -2147483648 ≤ z - 30
  · have e1 : bI (30 ≤ z ∧ z < 30 + (gn : Int)) = bI (0 ≤ z - 30 ∧ z - 30 < (gn : Int)) := bI_c (by omega)
    rw [e1]
    exact c_X3_isGood i gn (z - 30) hN hc (by omega) f_g
  · have e1 : bI (30 ≤ z ∧ z < 30 + (gn : Int)) = bI (0 ≤ z - 30 + 4294967296 ∧ z - 30 + 4294967296 < (gn : Int)) := bI_c (by omega)
    rw [e1, ← iI_wrap (z - 30)]
    exact c_X3_isGood i gn (z - 30 + 4294967296) hN hc (by omega) f_g
set_option maxHeartbeats 4000000 in
set_option maxRecDepth 100000 in
theorem c_X4_goodDetail {l : Launch} {G : nG} {N : Nat} {ad : Nat → Nat} {w : Nat → va_E} {sz : Nat} (b tn ra rb stp : Nat) (gn : Nat) (gp gt : Nat → Nat) (z : Int) (hN : b + 49 < N) (hgp : ∀ k, gp k ≤ 10000) (hgt : ∀ k, gt k ≤ 100) (hg : gn ≤ 14) (hz : -2147483648 ≤ z ∧ z < 2147483648) (f_L : w b = .inr (4, [.ref (ad (b + 1)), .ref (ad (b + 5)), .ref (ad (b + 9)), .ref (ad (b + 12)), .ref (ad (b + 13)), .int (iI ((tn : Nat) : Int)), .int (iI ((ra : Nat) : Int)), .int (iI ((rb : Nat) : Int)), .int (iI ((stp : Nat) : Int))])) (f_g : w (b + 9) = .inr (3, [.int (iI ((gn : Nat) : Int)), .ref (ad ((b + 9) + 1)), .ref (ad ((b + 9) + 2))])) (f_gp : w ((b + 9) + 1) = aI G 14 (fun q => (gp q : Int))) (f_gt : w ((b + 9) + 2) = aI G 14 (fun q => (gt q : Int))) : Met l yX4_goodDetail wsX4_goodDetail ({ frames := 2, cells := 0, slots := 0, locals := 43 }) (va_Pc [.ref (ad b), .int (iI z)] (nB G N ad w sz)) (nRd (.int (iI (ldG gn gp gt z)))) 0 0 (fun _ => False) := by
  refine n_ent (cc := cX4_goodDetail) (maxL := 2) (ret := (some .int)) (by decide) rfl (Nat.le_of_ble_eq_true rfl) ?_
  intro p e s m below meth cd hx hb hr hml hlocks hts hown hnm hsz hP hK hI Q hQ ls hl
  have hown : s.vm.findClass RX4 = some m.cls := hown
  have hl : lv_has ls 2 [(0, .ref (ad b)), (1, .int (iI z))] := hl
  refine lv_aload_n hx hb dX4_goodDetail_0 rfl (lv_at hl 0 rfl) ?_
  refine n_get hx hb hts u_X4 hown hK hP (by omega) f_L rfl 2 (by decide) (nT_m wf_X4_24) rfl dX4_goodDetail_1 ?_
  refine lv_iload_n hx hb dX4_goodDetail_4 rfl (lv_at hl 1 rfl) ?_
  refine n_bipush hx hb dX4_goodDetail_5 (by decide) ?_
  refine n_isub hx hb dX4_goodDetail_7 ?_
  refine n_rdF (va_runV (As := [.int (iI (z - 10))]) (rest := []) ⟨hx, hb, hml, hown, hts⟩ (c_X3_isGoodW10 _ gn z (by omega) (by omega) (by omega) f_g) (cwV 1 hts (nT_V wl_X4_117 wi_X3_isGood ws_X3_isGood wn_X3 wc_X3_isGood) rfl rfl rfl (by decide +kernel) ⟨Nat.le_of_ble_eq_true rfl, Nat.le_of_ble_eq_true rfl⟩) (nB.preV hK hI hP (by omega) f_g rfl rfl) rfl rfl hl.1 rfl (lv_room (Nat.le_of_ble_eq_true rfl)) dX4_goodDetail_8 ⟨Nat.zero_le _, Nat.zero_le _⟩) ?_
  refine n_if_eqB (tgt := 27) hx hb dX4_goodDetail_11 (by decide) (fun hc11 => ?_) (fun hc11 => ?_)
  · skip
    refine lv_aload_n hx hb dX4_goodDetail_27 rfl (lv_at hl 0 rfl) ?_
    refine n_get hx hb hts u_X4 hown hK hP (by omega) f_L rfl 2 (by decide) (nT_m wf_X4_24) rfl dX4_goodDetail_28 ?_
    refine lv_iload_n hx hb dX4_goodDetail_31 rfl (lv_at hl 1 rfl) ?_
    refine n_bipush hx hb dX4_goodDetail_32 (by decide) ?_
    refine n_isub hx hb dX4_goodDetail_34 ?_
    refine n_rdF (va_runV (As := [.int (iI (z - 30))]) (rest := []) ⟨hx, hb, hml, hown, hts⟩ (c_X3_isGoodW30 _ gn z (by omega) (by omega) (by omega) f_g) (cwV 1 hts (nT_V wl_X4_117 wi_X3_isGood ws_X3_isGood wn_X3 wc_X3_isGood) rfl rfl rfl (by decide +kernel) ⟨Nat.le_of_ble_eq_true rfl, Nat.le_of_ble_eq_true rfl⟩) (nB.preV hK hI hP (by omega) f_g rfl rfl) rfl rfl hl.1 rfl (lv_room (Nat.le_of_ble_eq_true rfl)) dX4_goodDetail_35 ⟨Nat.zero_le _, Nat.zero_le _⟩) ?_
    refine n_if_eqB (tgt := 56) hx hb dX4_goodDetail_38 (by decide) (fun hc38 => ?_) (fun hc38 => ?_)
    · skip
      refine n_iconst hx hb dX4_goodDetail_56 ?_
      exact n_iretR hQ hx hb hr hlocks (by unfold ldG; repeat (first | rw [if_pos (by omega)] | rw [if_neg (by omega)])) dX4_goodDetail_57
    · skip
      refine lv_aload_n hx hb dX4_goodDetail_41 rfl (lv_at hl 0 rfl) ?_
      refine n_get hx hb hts u_X4 hown hK hP (by omega) f_L rfl 2 (by decide) (nT_m wf_X4_24) rfl dX4_goodDetail_42 ?_
      refine n_get hx hb hts u_X3 hown hK hP (by omega) f_g rfl 2 (by decide) (nT_m wf_X4_110) rfl dX4_goodDetail_45 ?_
      refine lv_iload_n hx hb dX4_goodDetail_48 rfl (lv_at hl 1 rfl) ?_
      refine n_bipush hx hb dX4_goodDetail_49 (by decide) ?_
      refine n_isub hx hb dX4_goodDetail_51 ?_
      refine n_iald hx hb hK hP ((z - 30).toNat) (by omega) f_gt (by omega) (by omega) (by decide) dX4_goodDetail_52 ?_
      have ho1 := hgt ((z - 30).toNat)
      refine lv_goto (tgt := 57) hx hb dX4_goodDetail_53 (by decide) ?_
      exact n_iretR hQ hx hb hr hlocks (by unfold ldG; repeat (first | rw [if_pos (by omega)] | rw [if_neg (by omega)])) dX4_goodDetail_57
  · skip
    refine lv_aload_n hx hb dX4_goodDetail_14 rfl (lv_at hl 0 rfl) ?_
    refine n_get hx hb hts u_X4 hown hK hP (by omega) f_L rfl 2 (by decide) (nT_m wf_X4_24) rfl dX4_goodDetail_15 ?_
    refine n_get hx hb hts u_X3 hown hK hP (by omega) f_g rfl 1 (by decide) (nT_m wf_X4_96) rfl dX4_goodDetail_18 ?_
    refine lv_iload_n hx hb dX4_goodDetail_21 rfl (lv_at hl 1 rfl) ?_
    refine n_bipush hx hb dX4_goodDetail_22 (by decide) ?_
    refine n_isub hx hb dX4_goodDetail_24 ?_
    refine n_iald hx hb hK hP ((z - 10).toNat) (by omega) f_gp (by omega) (by omega) (by decide) dX4_goodDetail_25 ?_
    have ho2 := hgp ((z - 10).toNat)
    exact n_iretR hQ hx hb hr hlocks (by unfold ldG; repeat (first | rw [if_pos (by omega)] | rw [if_neg (by omega)])) dX4_goodDetail_26
set_option maxHeartbeats 4000000 in
set_option maxRecDepth 100000 in
theorem c_X4_detail {l : Launch} {G : nG} {N : Nat} {ad : Nat → Nat} {w : Nat → va_E} {sz : Nat} (b tn ra rb stp : Nat) (gn : Nat) (gp gt : Nat → Nat) (z : Int) (hN : b + 49 < N) (hgp : ∀ k, gp k ≤ 10000) (hgt : ∀ k, gt k ≤ 100) (hg : gn ≤ 14) (hz : -2147483648 ≤ z ∧ z < 2147483648) (f_L : w b = .inr (4, [.ref (ad (b + 1)), .ref (ad (b + 5)), .ref (ad (b + 9)), .ref (ad (b + 12)), .ref (ad (b + 13)), .int (iI ((tn : Nat) : Int)), .int (iI ((ra : Nat) : Int)), .int (iI ((rb : Nat) : Int)), .int (iI ((stp : Nat) : Int))])) (f_g : w (b + 9) = .inr (3, [.int (iI ((gn : Nat) : Int)), .ref (ad ((b + 9) + 1)), .ref (ad ((b + 9) + 2))])) (f_gp : w ((b + 9) + 1) = aI G 14 (fun q => (gp q : Int))) (f_gt : w ((b + 9) + 2) = aI G 14 (fun q => (gt q : Int))) : Met l yX4_detail wsX4_detail ({ frames := 3, cells := 0, slots := 0, locals := 64 }) (va_Pc [.ref (ad b), .int (iI z)] (nB G N ad w sz)) (nRd (.int (iI (ldD gn tn ra rb stp gp gt z)))) 0 0 (fun _ => False) := by
  refine n_ent (cc := cX4_detail) (maxL := 2) (ret := (some .int)) (by decide) rfl (Nat.le_of_ble_eq_true rfl) ?_
  intro p e s m below meth cd hx hb hr hml hlocks hts hown hnm hsz hP hK hI Q hQ ls hl
  have hown : s.vm.findClass RX4 = some m.cls := hown
  have hl : lv_has ls 2 [(0, .ref (ad b)), (1, .int (iI z))] := hl
  refine lv_iload_n hx hb dX4_detail_0 rfl (lv_at hl 1 rfl) ?_
  by_cases hsw0 : z = 0
  · skip
    refine lv_tableIn (tgt := 36) (off := 35) hx hb dX4_detail_1 (by rw [iI_T (by omega)]; omega) (by rw [iI_T (by omega)]; omega) (by rw [iI_T (by omega), hsw0]; rfl) (by decide) ?_
    refine lv_aload_n hx hb dX4_detail_36 rfl (lv_at hl 0 rfl) ?_
    refine n_get hx hb hts u_X4 hown hK hP (by omega) f_L rfl 2 (by decide) (nT_m wf_X4_24) rfl dX4_detail_37 ?_
    refine n_get hx hb hts u_X3 hown hK hP (by omega) f_g rfl 0 (by decide) (nT_m wf_X4_113) rfl dX4_detail_40 ?_
    exact n_iretR hQ hx hb hr hlocks (by unfold ldD; repeat (first | rw [if_pos (by omega)] | rw [if_neg (by omega)])) dX4_detail_43
  by_cases hsw1 : z = 1
  · skip
    refine lv_tableIn (tgt := 44) (off := 43) hx hb dX4_detail_1 (by rw [iI_T (by omega)]; omega) (by rw [iI_T (by omega)]; omega) (by rw [iI_T (by omega), hsw1]; rfl) (by decide) ?_
    refine lv_aload_n hx hb dX4_detail_44 rfl (lv_at hl 0 rfl) ?_
    refine n_get hx hb hts u_X4 hown hK hP (by omega) f_L rfl 5 (by decide) (nT_m wf_X4_38) rfl dX4_detail_45 ?_
    exact n_iretR hQ hx hb hr hlocks (by unfold ldD; repeat (first | rw [if_pos (by omega)] | rw [if_neg (by omega)])) dX4_detail_48
  by_cases hsw2 : z = 2
  · skip
    refine lv_tableIn (tgt := 49) (off := 48) hx hb dX4_detail_1 (by rw [iI_T (by omega)]; omega) (by rw [iI_T (by omega)]; omega) (by rw [iI_T (by omega), hsw2]; rfl) (by decide) ?_
    refine lv_aload_n hx hb dX4_detail_49 rfl (lv_at hl 0 rfl) ?_
    refine n_get hx hb hts u_X4 hown hK hP (by omega) f_L rfl 6 (by decide) (nT_m wf_X4_42) rfl dX4_detail_50 ?_
    exact n_iretR hQ hx hb hr hlocks (by unfold ldD; repeat (first | rw [if_pos (by omega)] | rw [if_neg (by omega)])) dX4_detail_53
  by_cases hsw3 : z = 3
  · skip
    refine lv_tableIn (tgt := 54) (off := 53) hx hb dX4_detail_1 (by rw [iI_T (by omega)]; omega) (by rw [iI_T (by omega)]; omega) (by rw [iI_T (by omega), hsw3]; rfl) (by decide) ?_
    refine lv_aload_n hx hb dX4_detail_54 rfl (lv_at hl 0 rfl) ?_
    refine n_get hx hb hts u_X4 hown hK hP (by omega) f_L rfl 7 (by decide) (nT_m wf_X4_45) rfl dX4_detail_55 ?_
    exact n_iretR hQ hx hb hr hlocks (by unfold ldD; repeat (first | rw [if_pos (by omega)] | rw [if_neg (by omega)])) dX4_detail_58
  by_cases hsw4 : z = 4
  · skip
    refine lv_tableIn (tgt := 59) (off := 58) hx hb dX4_detail_1 (by rw [iI_T (by omega)]; omega) (by rw [iI_T (by omega)]; omega) (by rw [iI_T (by omega), hsw4]; rfl) (by decide) ?_
    refine lv_aload_n hx hb dX4_detail_59 rfl (lv_at hl 0 rfl) ?_
    refine n_get hx hb hts u_X4 hown hK hP (by omega) f_L rfl 8 (by decide) (nT_m wf_X4_48) rfl dX4_detail_60 ?_
    exact n_iretR hQ hx hb hr hlocks (by unfold ldD; repeat (first | rw [if_pos (by omega)] | rw [if_neg (by omega)])) dX4_detail_63
  refine lv_tableOut (tgt := 64) hx hb dX4_detail_1 (by rw [iI_T (by omega)]; omega) (by decide) ?_
  refine lv_aload_n hx hb dX4_detail_64 rfl (lv_at hl 0 rfl) ?_
  refine lv_iload_n hx hb dX4_detail_65 rfl (lv_at hl 1 rfl) ?_
  refine n_rdF (va_runV (As := [.int (iI z)]) (rest := []) ⟨hx, hb, hml, hown, hts⟩ (c_X4_goodDetail _ _ _ _ _ _ gp gt z (by omega) hgp hgt (by omega) (by omega) f_L f_g f_gp f_gt) (cwV 1 hts (nT_V wl_X4_114 wi_X4_goodDetail ws_X4_goodDetail wn_X4 wc_X4_goodDetail) rfl rfl rfl (by decide +kernel) ⟨Nat.le_of_ble_eq_true rfl, Nat.le_of_ble_eq_true rfl⟩) (nB.preV hK hI hP (by omega) f_L rfl rfl) rfl rfl hl.1 rfl (lv_room (Nat.le_of_ble_eq_true rfl)) dX4_detail_66 ⟨Nat.zero_le _, Nat.zero_le _⟩) ?_
  exact n_iretR hQ hx hb hr hlocks (by unfold ldD; repeat (first | rw [if_pos (by omega)] | rw [if_neg (by omega)])) dX4_detail_69
end
section

/-! ===== ChangeMaker: the fewest coins where each coin may be taken lim times at most ===== -/
def isMn (A : Nat → Int) (v lim s : Nat) (r : Int) : Prop := (r = -1 ∧ ∀ j, j ≤ lim → j * v ≤ s → A (s - j * v) = -1) ∨ (∃ j, j ≤ lim ∧ j * v ≤ s ∧ A (s - j * v) ≠ -1 ∧ r = A (s - j * v) + j ∧ ∀ j', j' ≤ lim → j' * v ≤ s → A (s - j' * v) ≠ -1 → r ≤ A (s - j' * v) + j')
theorem isMn_rng {A : Nat → Int} {v lim s : Nat} {r : Int} (hv : 1 ≤ v) (hA : ∀ k, k ≤ s → -1 ≤ A k ∧ A k ≤ k) (h : isMn A v lim s r) : -1 ≤ r ∧ r ≤ s := by
  rcases h with ⟨h, -⟩ | ⟨j, h1, h2, h3, h4, -⟩
  · omega
  · have h5 := hA (s - j * v) (by omega)
    have h6 : j * 1 ≤ j * v := Nat.mul_le_mul_left j hv
    omega
def qG (A : Nat → Int) (f v lim p m h t : Nat) (P C : Nat → Int) : Prop := (h ≤ t ∧ t ≤ m) ∧ (∀ a, h ≤ a → a < t → ∃ q : Nat, P a = q ∧ q < m ∧ p ≤ q + lim + 1 ∧ A (f + q * v) ≠ -1 ∧ C a = A (f + q * v) - q) ∧ (∀ a b, h ≤ a → a < b → b < t → P a < P b ∧ C a < C b) ∧ (∀ q : Nat, q < m → p ≤ q + lim + 1 → A (f + q * v) ≠ -1 → ∃ a, h ≤ a ∧ a < t ∧ (q : Int) ≤ P a ∧ C a ≤ A (f + q * v) - q)
def qJ (A : Nat → Int) (f v lim p h t : Nat) (P C : Nat → Int) (cost : Int) : Prop := (h ≤ t ∧ t ≤ p) ∧ (∀ a, h ≤ a → a < t → ∃ q : Nat, P a = q ∧ q < p ∧ p ≤ q + lim + 1 ∧ A (f + q * v) ≠ -1 ∧ C a = A (f + q * v) - q) ∧ (∀ a b, h ≤ a → a < b → b < t → P a < P b ∧ C a < C b) ∧ (∀ q : Nat, q < p → p ≤ q + lim + 1 → A (f + q * v) ≠ -1 → (∃ a, h ≤ a ∧ a < t ∧ (q : Int) ≤ P a ∧ C a ≤ A (f + q * v) - q) ∨ cost ≤ A (f + q * v) - q)
theorem qG_0 (A : Nat → Int) (f v lim : Nat) (P C : Nat → Int) : qG A f v lim 0 0 0 0 P C := ⟨⟨Nat.le_refl _, Nat.le_refl _⟩, fun a h1 h2 => absurd h2 (Nat.not_lt_zero _), fun a b h1 h2 h3 => absurd h3 (Nat.not_lt_zero _), fun q h => absurd h (Nat.not_lt_zero _)⟩
theorem qG_no {A : Nat → Int} {f v lim p h t : Nat} {P C : Nat → Int} (H : qG A f v lim p p h t P C) (hA : A (f + p * v) = -1) : qG A f v lim p (p + 1) h t P C := by
  obtain ⟨h1, h2, h3, h4⟩ := H
  refine ⟨by omega, fun a ha hb => ?_, h3, fun q hq hw hn => ?_⟩
  · obtain ⟨q, e1, e2, e3⟩ := h2 a ha hb
    exact ⟨q, e1, by omega, e3⟩
  · rcases Nat.lt_or_ge q p with c | c
    · exact h4 q c hw hn
    · exact absurd hA (by rw [show p = q by omega]; exact hn)
theorem qJ_in {A : Nat → Int} {f v lim p h t : Nat} {P C : Nat → Int} (H : qG A f v lim p p h t P C) (cost : Int) : qJ A f v lim p h t P C cost := ⟨H.1, H.2.1, H.2.2.1, fun q a b c => Or.inl (H.2.2.2 q a b c)⟩
theorem qJ_pop {A : Nat → Int} {f v lim p h t : Nat} {P C : Nat → Int} {cost : Int} (H : qJ A f v lim p h (t + 1) P C cost) (ht : h ≤ t) (hc : cost ≤ C t) : qJ A f v lim p h t P C cost := by
  obtain ⟨h1, h2, h3, h4⟩ := H
  refine ⟨by omega, fun a ha hb => h2 a ha (by omega), fun a b x y z => h3 a b x y (by omega), fun q hq hw hn => ?_⟩
  rcases h4 q hq hw hn with ⟨a, x1, x2, x3, x4⟩ | x
  · rcases Nat.lt_or_ge a t with y | y
    · exact Or.inl ⟨a, x1, y, x3, x4⟩
    · rw [show a = t by omega] at x4
      exact Or.inr (by omega)
  · exact Or.inr x
theorem qJ_push {A : Nat → Int} {f v lim p h t : Nat} {P C : Nat → Int} {cost : Int} (H : qJ A f v lim p h t P C cost) (hl : t ≤ h ∨ C (t - 1) < cost) (hA : A (f + p * v) ≠ -1) (hc : cost = A (f + p * v) - p) : qG A f v lim p (p + 1) h (t + 1) (va_up P t (p : Int)) (va_up C t cost) := by
  obtain ⟨h1, h2, h3, h4⟩ := H
  have eP : va_up P t (p : Int) t = p := va_up_self _ _ _
  have eC : va_up C t cost t = cost := va_up_self _ _ _
  have nP : ∀ a, a ≠ t → va_up P t (p : Int) a = P a := fun a x => va_up_ne _ _ x
  have nC : ∀ a, a ≠ t → va_up C t cost a = C a := fun a x => va_up_ne _ _ x
  refine ⟨by omega, fun a ha hb => ?_, fun a b x y z => ?_, fun q hq hw hn => ?_⟩
  · by_cases e : a = t
    · subst e
      exact ⟨p, eP, by omega, by omega, hA, by rw [eC, hc]⟩
    · obtain ⟨q, e1, e2, e3, e4, e5⟩ := h2 a ha (by omega)
      exact ⟨q, by rw [nP a e, e1], by omega, e3, e4, by rw [nC a e, e5]⟩
  · by_cases e : b = t
    · subst e
      obtain ⟨q, e1, e2, -⟩ := h2 a x (by omega)
      rw [nP a (by omega), nC a (by omega), eP, eC]
      refine ⟨by omega, ?_⟩
      by_cases e9 : a = b - 1
      · subst e9
        omega
      · have := (h3 a (b - 1) x (by omega) (by omega)).2
        omega
    · rw [nP a (by omega), nC a (by omega), nP b e, nC b e]
      exact h3 a b x y (by omega)
  · by_cases e : q = p
    · subst e
      exact ⟨t, by omega, by omega, by rw [eP]; omega, by rw [eC, hc]; omega⟩
    · rcases h4 q (by omega) hw hn with ⟨a, x1, x2, x3, x4⟩ | x
      · exact ⟨a, x1, by omega, by rw [nP a (by omega)]; exact x3, by rw [nC a (by omega)]; exact x4⟩
      · exact ⟨t, by omega, by omega, by rw [eP]; omega, by rw [eC]; exact x⟩
theorem qG_pop {A : Nat → Int} {f v lim p h t : Nat} {P C : Nat → Int} (H : qG A f v lim p (p + 1) h t P C) (ht : h < t) (hp : P h < (p : Int) - lim) : qG A f v lim (p + 1) (p + 1) (h + 1) t P C := by
  obtain ⟨h1, h2, h3, h4⟩ := H
  refine ⟨by omega, fun a ha hb => ?_, fun a b x y z => h3 a b (by omega) y z, fun q hq hw hn => ?_⟩
  · obtain ⟨q, e1, e2, e3, e4, e5⟩ := h2 a (by omega) hb
    obtain ⟨q0, f1, f2, f3, -⟩ := h2 h (Nat.le_refl _) ht
    have := (h3 h a (Nat.le_refl _) (by omega) hb).1
    exact ⟨q, e1, e2, by omega, e4, e5⟩
  · obtain ⟨a, x1, x2, x3, x4⟩ := h4 q hq (by omega) hn
    by_cases e : a = h
    · subst e
      omega
    · exact ⟨a, by omega, x2, x3, x4⟩
theorem qG_stay {A : Nat → Int} {f v lim p h t : Nat} {P C : Nat → Int} (H : qG A f v lim p (p + 1) h t P C) (hp : t ≤ h ∨ (p : Int) - lim ≤ P h) : qG A f v lim (p + 1) (p + 1) h t P C := by
  obtain ⟨h1, h2, h3, h4⟩ := H
  refine ⟨by omega, fun a ha hb => ?_, h3, fun q hq hw hn => h4 q hq (by omega) hn⟩
  obtain ⟨q, e1, e2, e3, e4, e5⟩ := h2 a ha hb
  by_cases e : a = h
  · subst e
    exact ⟨q, e1, e2, by omega, e4, e5⟩
  · have := (h3 h a (Nat.le_refl _) (by omega) hb).1
    exact ⟨q, e1, e2, by omega, e4, e5⟩
theorem qG_rng {A : Nat → Int} {f v lim p m h t M : Nat} {P C : Nat → Int} (H : qG A f v lim p m h t P C) (hA : ∀ k, k ≤ M → -1 ≤ A k ∧ A k ≤ k) (hM : ∀ q, q < m → f + q * v ≤ M) (hm : m ≤ 2001) (hMM : M ≤ 2000) : ∀ a, h ≤ a → a < t → -3000 ≤ C a ∧ C a ≤ 3000 ∧ 0 ≤ P a ∧ P a ≤ 3000 := by
  intro a ha hb
  obtain ⟨q, e1, e2, e3, e4, e5⟩ := H.2.1 a ha hb
  have := hA _ (hM q e2)
  have := hM q e2
  omega
theorem qJ_rng {A : Nat → Int} {f v lim p h t M : Nat} {P C : Nat → Int} {cost : Int} (H : qJ A f v lim p h t P C cost) (hA : ∀ k, k ≤ M → -1 ≤ A k ∧ A k ≤ k) (hM : ∀ q, q < p → f + q * v ≤ M) (hm : p ≤ 2001) (hMM : M ≤ 2000) : ∀ a, h ≤ a → a < t → -3000 ≤ C a ∧ C a ≤ 3000 := by
  intro a ha hb
  obtain ⟨q, e1, e2, e3, e4, e5⟩ := H.2.1 a ha hb
  have := hA _ (hM q e2)
  have := hM q e2
  omega
theorem mul_lt_le {f v p j : Nat} (hf : f < v) (h : j * v ≤ f + p * v) : j ≤ p := by
  rcases Nat.lt_or_ge p j with c | c
  · have h1 : (p + 1) * v ≤ j * v := Nat.mul_le_mul_right v c
    rw [Nat.succ_mul] at h1
    omega
  · exact c
theorem sub_mul' {f v p j : Nat} (h : j ≤ p) : f + p * v - j * v = f + (p - j) * v := by
  have h1 : (p - j) * v + j * v = p * v := by rw [← Nat.add_mul, Nat.sub_add_cancel h]
  omega
theorem mul_step {v q p : Nat} (f : Nat) (h : q < p) : f + q * v + v ≤ f + p * v := by
  have e9 : (q + 1) * v ≤ p * v := Nat.mul_le_mul_right v h
  rw [Nat.succ_mul] at e9
  omega
theorem mul_in {v q p f M : Nat} (hM : f + p * v ≤ M) (h : q < p + 1) : f + q * v ≤ M := by
  have e9 : q * v ≤ p * v := Nat.mul_le_mul_right v (by omega)
  omega
theorem qG_mn {A : Nat → Int} {f v lim p h t : Nat} {P C : Nat → Int} (hf : f < v) (H : qG A f v lim (p + 1) (p + 1) h t P C) (ht : h < t) : isMn A v lim (f + p * v) (C h + p) := by
  obtain ⟨h1, h2, h3, h4⟩ := H
  obtain ⟨q, e1, e2, e3, e4, e5⟩ := h2 h (Nat.le_refl _) ht
  have hq : p - (p - q) = q := by omega
  refine Or.inr ⟨p - q, by omega, ?_, ?_, ?_, fun j' hj' hjv hn => ?_⟩
  · have : (p - q) * v ≤ p * v := Nat.mul_le_mul_right v (Nat.sub_le p q)
    omega
  · rw [sub_mul' (by omega), hq]
    exact e4
  · rw [sub_mul' (by omega), hq, e5]
    omega
  · have hle := mul_lt_le hf hjv
    rw [sub_mul' hle] at hn ⊢
    obtain ⟨a, x1, x2, x3, x4⟩ := h4 (p - j') (by omega) (by omega) hn
    by_cases e : a = h
    · subst e
      omega
    · have := (h3 h a (Nat.le_refl _) (by omega) x2).2
      omega
theorem qG_no_mn {A : Nat → Int} {f v lim p h t : Nat} {P C : Nat → Int} (hf : f < v) (H : qG A f v lim (p + 1) (p + 1) h t P C) (ht : t ≤ h) : isMn A v lim (f + p * v) (-1) := by
  obtain ⟨h1, h2, h3, h4⟩ := H
  refine Or.inl ⟨rfl, fun j hj hjv => ?_⟩
  have hle := mul_lt_le hf hjv
  rw [sub_mul' hle]
  refine Decidable.byContradiction fun hn => ?_
  obtain ⟨a, x1, x2, -⟩ := h4 (p - j) (by omega) (by omega) hn
  omega
set_option maxHeartbeats 4000000 in
set_option maxRecDepth 100000 in
theorem c_X0_leadsOn {l : Launch} {G : nG} {N : Nat} {ad : Nat → Nat} {w : Nat → va_E} {sz : Nat} (i q left rest nn : Nat) (T0 T1 : Nat → Int) (hN : i + 13 < N) (hq : 1 ≤ q ∧ q ≤ 8) (hlt : left < 2001 ∧ rest < 2001) (hnn : nn ≤ 2000) (hT0 : -1 ≤ T0 rest ∧ T0 rest ≤ 2000) (hT1 : -1 ≤ T1 left ∧ T1 left ≤ 2000) (f_m : w i = .inr (0, [.ref (ad (i + 1)), .ref (ad (i + 2)), .ref (ad (i + 12)), .ref (ad (i + 13))])) (f_g : w (i + 2) = aR G 5 9 (fun k => some (ad (i + 3 + k)))) (f_r0 : w (i + 3 + (q - 1)) = aI G 2001 T0) (f_r1 : w (i + 3 + q) = aI G 2001 T1) : Met l yX0_leadsOn wsX0_leadsOn ({ frames := 0, cells := 0, slots := 0, locals := 0 }) (va_Pc [.ref (ad i), .int (iI ((q : Nat) : Int)), .int (iI ((left : Nat) : Int)), .int (iI ((rest : Nat) : Int)), .int (iI ((nn : Nat) : Int))] (nB G N ad w sz)) (nRd (.int (iI (bI (¬ T0 rest = -1 ∧ T0 rest + (nn : Int) = T1 left))))) 0 0 (fun _ => False) := by
  refine n_ent (cc := cX0_leadsOn) (maxL := 5) (ret := (some .boolean)) (by decide) rfl (Nat.le_of_ble_eq_true rfl) ?_
  intro p e s m below meth cd hx hb hr hml hlocks hts hown hnm hsz hP hK hI Q hQ ls hl
  have hown : s.vm.findClass RX0 = some m.cls := hown
  have hl : lv_has ls 5 [(0, .ref (ad i)), (1, .int (iI ((q : Nat) : Int))), (2, .int (iI ((left : Nat) : Int))), (3, .int (iI ((rest : Nat) : Int))), (4, .int (iI ((nn : Nat) : Int)))] := hl
  refine lv_aload_n hx hb dX0_leadsOn_0 rfl (lv_at hl 0 rfl) ?_
  refine n_get hx hb hts u_X0 hown hK hP (by omega) f_m rfl 1 (by decide) (nT_m wf_X0_17) rfl dX0_leadsOn_1 ?_
  refine lv_iload_n hx hb dX0_leadsOn_4 rfl (lv_at hl 1 rfl) ?_
  refine n_iconst hx hb dX0_leadsOn_5 ?_
  refine n_isub hx hb dX0_leadsOn_6 ?_
  refine n_aald hx hb hK hP (.array .int) (q - 1) (by omega) f_g rfl rfl (by omega) (by omega) (by decide) rfl dX0_leadsOn_7 ?_
  refine lv_iload_n hx hb dX0_leadsOn_8 rfl (lv_at hl 3 rfl) ?_
  refine n_iald hx hb hK hP rest (by omega) f_r0 (by omega) (by omega) (by decide) dX0_leadsOn_9 ?_
  refine n_iconst hx hb dX0_leadsOn_10 ?_
  refine n_icmp_eq (tgt := 42) hx hb dX0_leadsOn_11 (by decide) (by omega) (by omega) (fun hc11 => ?_) (fun hc11 => ?_)
  · skip
    refine n_iconst hx hb dX0_leadsOn_42 ?_
    exact n_zretR hQ hx hb hr hlocks (by unfold bI; split <;> omega) dX0_leadsOn_43
  · skip
    refine lv_aload_n hx hb dX0_leadsOn_14 rfl (lv_at hl 0 rfl) ?_
    refine n_get hx hb hts u_X0 hown hK hP (by omega) f_m rfl 1 (by decide) (nT_m wf_X0_17) rfl dX0_leadsOn_15 ?_
    refine lv_iload_n hx hb dX0_leadsOn_18 rfl (lv_at hl 1 rfl) ?_
    refine n_iconst hx hb dX0_leadsOn_19 ?_
    refine n_isub hx hb dX0_leadsOn_20 ?_
    refine n_aald hx hb hK hP (.array .int) (q - 1) (by omega) f_g rfl rfl (by omega) (by omega) (by decide) rfl dX0_leadsOn_21 ?_
    refine lv_iload_n hx hb dX0_leadsOn_22 rfl (lv_at hl 3 rfl) ?_
    refine n_iald hx hb hK hP rest (by omega) f_r0 (by omega) (by omega) (by decide) dX0_leadsOn_23 ?_
    refine lv_iload hx hb dX0_leadsOn_24 (lv_at hl 4 rfl) ?_
    refine n_iadd hx hb dX0_leadsOn_26 ?_
    refine lv_aload_n hx hb dX0_leadsOn_27 rfl (lv_at hl 0 rfl) ?_
    refine n_get hx hb hts u_X0 hown hK hP (by omega) f_m rfl 1 (by decide) (nT_m wf_X0_17) rfl dX0_leadsOn_28 ?_
    refine lv_iload_n hx hb dX0_leadsOn_31 rfl (lv_at hl 1 rfl) ?_
    refine n_aald hx hb hK hP (.array .int) q (by omega) f_g rfl rfl (by omega) (by omega) (by decide) rfl dX0_leadsOn_32 ?_
    refine lv_iload_n hx hb dX0_leadsOn_33 rfl (lv_at hl 2 rfl) ?_
    refine n_iald hx hb hK hP left (by omega) f_r1 (by omega) (by omega) (by decide) dX0_leadsOn_34 ?_
    refine n_icmp_ne (tgt := 42) hx hb dX0_leadsOn_35 (by decide) (by omega) (by omega) (fun hc35 => ?_) (fun hc35 => ?_)
    · skip
      refine n_iconst hx hb dX0_leadsOn_42 ?_
      exact n_zretR hQ hx hb hr hlocks (by unfold bI; split <;> omega) dX0_leadsOn_43
    · skip
      refine n_iconst hx hb dX0_leadsOn_38 ?_
      refine lv_goto (tgt := 43) hx hb dX0_leadsOn_39 (by decide) ?_
      exact n_zretR hQ hx hb hr hlocks (by unfold bI; split <;> omega) dX0_leadsOn_43
set_option maxHeartbeats 4000000 in
set_option maxRecDepth 100000 in
theorem c_X0_slide {l : Launch} {G : nG} {N : Nat} {ad : Nat → Nat} {w : Nat → va_E} {sz : Nat} (i ia ib f v lim M : Nat) (A T P0 C0 : Nat → Int) (hN : i + 13 < N) (hia : ia < N ∧ ib < N ∧ ia ≠ ib ∧ ia ≠ i + 12 ∧ ia ≠ i + 13 ∧ ib ≠ i + 12 ∧ ib ≠ i + 13 ∧ ia ≠ i ∧ ib ≠ i) (hv : 1 ≤ v ∧ v ≤ 1000) (hf : f < v) (hM : M ≤ 2000) (hlim : lim ≤ 2000) (hA : ∀ k, k ≤ M → -1 ≤ A k ∧ A k ≤ k) (f_m : w i = .inr (0, [.ref (ad (i + 1)), .ref (ad (i + 2)), .ref (ad (i + 12)), .ref (ad (i + 13))])) (f_fr : w ia = aI G 2001 A) (f_to : w ib = aI G 2001 T) (f_pl : w (i + 12) = aI G 2001 P0) (f_co : w (i + 13) = aI G 2001 C0) : Met l yX0_slide wsX0_slide ({ frames := 0, cells := 0, slots := 0, locals := 0 }) (va_Pc [.ref (ad i), .ref (ad ia), .ref (ad ib), .int (iI ((f : Nat) : Int)), .int (iI ((v : Nat) : Int)), .int (iI ((lim : Nat) : Int)), .int (iI ((M : Nat) : Int))] (nB G N ad w sz)) (nPv G N ad sz (fun u => (∀ j, j ≠ ib → j ≠ (i + 12) → j ≠ (i + 13) → u j = w j) ∧ (∃ Tn, u ib = aI G 2001 Tn ∧ (∀ p1, f + p1 * v ≤ M → isMn A v lim (f + p1 * v) (Tn (f + p1 * v))) ∧ (∀ s1, (∀ p1, s1 = f + p1 * v → M < s1) → Tn s1 = T s1)) ∧ (∃ Pn, u (i + 12) = aI G 2001 Pn) ∧ (∃ Cn, u (i + 13) = aI G 2001 Cn))) 0 0 (nA N ad sz) := by
  refine n_ent (cc := cX0_slide) (maxL := 12) (ret := (none : Option Jvm.ClassFile.FieldType)) (by decide) rfl (Nat.le_of_ble_eq_true rfl) ?_
  intro p e s m below meth cd hx hb hr hml hlocks hts hown hnm hsz hP hK hI Q hQ ls hl
  have hown : s.vm.findClass RX0 = some m.cls := hown
  subst hsz
  have hJ := hI.J s.heap.size
  have hS : va_S (nA N ad s.heap.size) s.heap s.heap [] := va_S.rf
  have hfr : ∀ j, j ≠ ib → j ≠ (i + 12) → j ≠ (i + 13) → w j = w j := fun _ _ _ _ => rfl
  have hl : lv_has ls 12 [(0, .ref (ad i)), (1, .ref (ad ia)), (2, .ref (ad ib)), (3, .int (iI ((f : Nat) : Int))), (4, .int (iI ((v : Nat) : Int))), (5, .int (iI ((lim : Nat) : Int))), (6, .int (iI ((M : Nat) : Int)))] := hl
  refine n_iconst hx hb dX0_slide_0 ?_
  refine lv_istore (lv' := [(7, .int (iI 0)), (0, .ref (ad i)), (1, .ref (ad ia)), (2, .ref (ad ib)), (3, .int (iI ((f : Nat) : Int))), (4, .int (iI ((v : Nat) : Int))), (5, .int (iI ((lim : Nat) : Int))), (6, .int (iI ((M : Nat) : Int)))]) hx hb dX0_slide_1 hl (by decide) rfl (fun ls hl => ?_)
  refine n_iconst hx hb dX0_slide_3 ?_
  refine lv_istore (lv' := [(8, .int (iI 0)), (7, .int (iI 0)), (0, .ref (ad i)), (1, .ref (ad ia)), (2, .ref (ad ib)), (3, .int (iI ((f : Nat) : Int))), (4, .int (iI ((v : Nat) : Int))), (5, .int (iI ((lim : Nat) : Int))), (6, .int (iI ((M : Nat) : Int)))]) hx hb dX0_slide_4 hl (by decide) rfl (fun ls hl => ?_)
  refine n_iconst hx hb dX0_slide_6 ?_
  refine lv_istore (lv' := [(9, .int (iI 0)), (8, .int (iI 0)), (7, .int (iI 0)), (0, .ref (ad i)), (1, .ref (ad ia)), (2, .ref (ad ib)), (3, .int (iI ((f : Nat) : Int))), (4, .int (iI ((v : Nat) : Int))), (5, .int (iI ((lim : Nat) : Int))), (6, .int (iI ((M : Nat) : Int)))]) hx hb dX0_slide_7 hl (by decide) rfl (fun ls hl => ?_)
  refine lv_iload_n hx hb dX0_slide_9 rfl (lv_at hl 6 rfl) ?_
  refine lv_istore (lv' := [(10, .int (iI ((f : Nat) : Int))), (9, .int (iI 0)), (8, .int (iI 0)), (7, .int (iI 0)), (0, .ref (ad i)), (1, .ref (ad ia)), (2, .ref (ad ib)), (3, .int (iI ((f : Nat) : Int))), (4, .int (iI ((v : Nat) : Int))), (5, .int (iI ((lim : Nat) : Int))), (6, .int (iI ((M : Nat) : Int)))]) hx hb dX0_slide_10 hl (by decide) rfl (fun ls hl => ?_)
  have lp1 : ∀ (fu : Nat), ∀ (p_ : Nat) (h : Nat) (t : Nat) (Tn : Nat → Int) (Pn : Nat → Int) (Cn : Nat → Int), ∀ (w2 : Nat → va_E) (H : Heap) (locs : List Loc), ∀ (ls : Array Slot), M + v - (f + p_ * v) < fu → qG A f v lim p_ p_ h t Pn Cn → (∀ p1, p1 < p_ → isMn A v lim (f + p1 * v) (Tn (f + p1 * v))) → (∀ s1, (∀ p1, p1 < p_ → s1 ≠ f + p1 * v) → Tn s1 = T s1) → f + p_ * v ≤ M + v → (∀ j, j ≠ ib → j ≠ (i + 12) → j ≠ (i + 13) → w2 j = w j) → w2 i = .inr (0, [.ref (ad (i + 1)), .ref (ad (i + 2)), .ref (ad (i + 12)), .ref (ad (i + 13))]) → w2 ia = aI G 2001 A → w2 ib = aI G 2001 Tn → w2 (i + 12) = aI G 2001 Pn → w2 (i + 13) = aI G 2001 Cn → va_P G.1 vwCl (nL N ad w2) H → va_S (nA N ad s.heap.size) s.heap H locs → lv_has ls 12 [(0, .ref (ad i)), (1, .ref (ad ia)), (2, .ref (ad ib)), (3, .int (iI ((f : Nat) : Int))), (4, .int (iI ((v : Nat) : Int))), (5, .int (iI ((lim : Nat) : Int))), (6, .int (iI ((M : Nat) : Int))), (7, .int (iI ((h : Nat) : Int))), (8, .int (iI ((t : Nat) : Int))), (9, .int (iI ((p_ : Nat) : Int))), (10, .int (iI ((f + p_ * v : Nat) : Int)))] → W p l e ({ frames := 0, cells := 0, slots := 0, locals := 0 } : Room) s m ([.ref (ad i), .ref (ad ia), .ref (ad ib), .int (iI ((f : Nat) : Int)), .int (iI ((v : Nat) : Int)), .int (iI ((lim : Nat) : Int)), .int (iI ((M : Nat) : Int))] : List Value).toArray below meth cd H locs 0 0 Q (F0 m 12 ls []) := by
    intro fu
    induction fu with
    | zero =>
      intro p_ h t Tn Pn Cn w2 H locs ls hfu hq hdone hold hpb hfr f_m f_fr f_to f_pl f_co hP hS hl
      exact absurd hfu (Nat.not_lt_zero _)
    | succ fu ih3 =>
      intro p_ h t Tn Pn Cn w2 H locs ls hfu hq hdone hold hpb hfr f_m f_fr f_to f_pl f_co hP hS hl
      have hpv : p_ ≤ p_ * v := Nat.le_mul_of_pos_right p_ hv.1
      have ht9 := hq.1
      have hqv : ∀ q9, q9 < p_ → f + q9 * v + v ≤ f + p_ * v := fun q9 h9 => mul_step f h9
      refine lv_iload hx hb dX0_slide_12 (lv_at hl 10 rfl) ?_
      refine lv_iload hx hb dX0_slide_14 (lv_at hl 6 rfl) ?_
      refine n_icmp_gt (tgt := 147) hx hb dX0_slide_16 (by decide) (by omega) (by omega) (fun hc16 => ?_) (fun hc16 => ?_)
      · skip
        refine n_vretP hQ hx hb hr hlocks hP hS dX0_slide_147 ?_
        refine ⟨hfr, ⟨Tn, f_to, fun p1 h1 => hdone p1 ?_, fun s1 h1 => hold s1 fun p1 h2 h3 => ?_⟩, ⟨_, f_pl⟩, ⟨_, f_co⟩⟩
        · rcases Nat.lt_or_ge p1 p_ with c9 | c9
          · exact c9
          · have e9 : p_ * v ≤ p1 * v := Nat.mul_le_mul_right v c9
            omega
        · have e8 := h1 p1 h3
          have e9 := hqv p1 h2
          omega
      · skip
        have hpM : f + p_ * v ≤ M := by omega
        have lp4 : ∀ (t : Nat) (Pn : Nat → Int) (Cn : Nat → Int), ∀ (w5 : Nat → va_E) (H : Heap) (locs : List Loc), ∀ (ls : Array Slot), qG A f v lim p_ (p_ + 1) h t Pn Cn → (∀ j, j ≠ ib → j ≠ (i + 12) → j ≠ (i + 13) → w5 j = w j) → w5 i = .inr (0, [.ref (ad (i + 1)), .ref (ad (i + 2)), .ref (ad (i + 12)), .ref (ad (i + 13))]) → w5 ia = aI G 2001 A → w5 ib = aI G 2001 Tn → w5 (i + 12) = aI G 2001 Pn → w5 (i + 13) = aI G 2001 Cn → va_P G.1 vwCl (nL N ad w5) H → va_S (nA N ad s.heap.size) s.heap H locs → lv_has ls 12 [(0, .ref (ad i)), (1, .ref (ad ia)), (2, .ref (ad ib)), (3, .int (iI ((f : Nat) : Int))), (4, .int (iI ((v : Nat) : Int))), (5, .int (iI ((lim : Nat) : Int))), (6, .int (iI ((M : Nat) : Int))), (7, .int (iI ((h : Nat) : Int))), (8, .int (iI ((t : Nat) : Int))), (9, .int (iI ((p_ : Nat) : Int))), (10, .int (iI ((f + p_ * v : Nat) : Int)))] → W p l e ({ frames := 0, cells := 0, slots := 0, locals := 0 } : Room) s m ([.ref (ad i), .ref (ad ia), .ref (ad ib), .int (iI ((f : Nat) : Int)), .int (iI ((v : Nat) : Int)), .int (iI ((lim : Nat) : Int)), .int (iI ((M : Nat) : Int))] : List Value).toArray below meth cd H locs 0 0 Q (F0 m 84 ls []) := by
          intro t Pn Cn w5 H locs ls hq hfr f_m f_fr f_to f_pl f_co hP hS hl
          have ht8 := hq.1
          have hrg := qG_rng hq hA (fun q9 h9 => mul_in hpM h9) (by omega) hM
          have lp7 : ∀ (h : Nat), ∀ (w8 : Nat → va_E) (H : Heap) (locs : List Loc), ∀ (ls : Array Slot), qG A f v lim (p_ + 1) (p_ + 1) h t Pn Cn → (∀ j, j ≠ ib → j ≠ (i + 12) → j ≠ (i + 13) → w8 j = w j) → w8 i = .inr (0, [.ref (ad (i + 1)), .ref (ad (i + 2)), .ref (ad (i + 12)), .ref (ad (i + 13))]) → w8 ia = aI G 2001 A → w8 ib = aI G 2001 Tn → w8 (i + 12) = aI G 2001 Pn → w8 (i + 13) = aI G 2001 Cn → va_P G.1 vwCl (nL N ad w8) H → va_S (nA N ad s.heap.size) s.heap H locs → lv_has ls 12 [(0, .ref (ad i)), (1, .ref (ad ia)), (2, .ref (ad ib)), (3, .int (iI ((f : Nat) : Int))), (4, .int (iI ((v : Nat) : Int))), (5, .int (iI ((lim : Nat) : Int))), (6, .int (iI ((M : Nat) : Int))), (7, .int (iI ((h : Nat) : Int))), (8, .int (iI ((t : Nat) : Int))), (9, .int (iI ((p_ : Nat) : Int))), (10, .int (iI ((f + p_ * v : Nat) : Int)))] → W p l e ({ frames := 0, cells := 0, slots := 0, locals := 0 } : Room) s m ([.ref (ad i), .ref (ad ia), .ref (ad ib), .int (iI ((f : Nat) : Int)), .int (iI ((v : Nat) : Int)), .int (iI ((lim : Nat) : Int)), .int (iI ((M : Nat) : Int))] : List Value).toArray below meth cd H locs 0 0 Q (F0 m 109 ls []) := by
            intro h w8 H locs ls hq hfr f_m f_fr f_to f_pl f_co hP hS hl
            have ht8 := hq.1
            have hrg := qG_rng hq hA (fun q9 h9 => mul_in hpM h9) (by omega) hM
            refine lv_aload_n hx hb dX0_slide_109 rfl (lv_at hl 2 rfl) ?_
            refine lv_iload hx hb dX0_slide_110 (lv_at hl 10 rfl) ?_
            refine lv_iload hx hb dX0_slide_112 (lv_at hl 7 rfl) ?_
            refine lv_iload hx hb dX0_slide_114 (lv_at hl 8 rfl) ?_
            refine n_icmp_ge (tgt := 132) hx hb dX0_slide_116 (by decide) (by omega) (by omega) (fun hc116 => ?_) (fun hc116 => ?_)
            · skip
              refine n_iconst hx hb dX0_slide_132 ?_
              refine n_iast hx hb hK hJ hP hS (f + p_ * v) (by omega) f_to (by omega) (by omega) (by decide) dX0_slide_133 (fun w10 H locs f_to hne11 hP hS => ?_)
              have f_m := (hne11 i (by omega)).trans f_m
              have f_fr := (hne11 ia (by omega)).trans f_fr
              have f_pl := (hne11 (i + 12) (by omega)).trans f_pl
              have f_co := (hne11 (i + 13) (by omega)).trans f_co
              have hfr : ∀ j, j ≠ ib → j ≠ (i + 12) → j ≠ (i + 13) → w10 j = w j := fun j a0 a1 a2 => (hne11 j (by omega)).trans (hfr j a0 a1 a2)
              refine lv_iinc (v := iI (((p_ : Nat) : Int) + 1)) (lv' := [(9, .int (iI (((p_ : Nat) : Int) + 1))), (0, .ref (ad i)), (1, .ref (ad ia)), (2, .ref (ad ib)), (3, .int (iI ((f : Nat) : Int))), (4, .int (iI ((v : Nat) : Int))), (5, .int (iI ((lim : Nat) : Int))), (6, .int (iI ((M : Nat) : Int))), (7, .int (iI ((h : Nat) : Int))), (8, .int (iI ((t : Nat) : Int))), (10, .int (iI ((f + p_ * v : Nat) : Int)))]) hx hb dX0_slide_134 hl (k := 9) rfl (by first | exact iI_add _ _ | exact (iI_add _ _).trans (congrArg iI (by omega))) (by decide) rfl (fun ls hl => ?_)
              refine lv_iload hx hb dX0_slide_137 (lv_at hl 10 rfl) ?_
              refine lv_iload hx hb dX0_slide_139 (lv_at hl 5 rfl) ?_
              refine n_iadd hx hb dX0_slide_141 ?_
              refine lv_istore (lv' := [(10, .int (iI (((f + p_ * v : Nat) : Int) + ((v : Nat) : Int)))), (9, .int (iI (((p_ : Nat) : Int) + 1))), (0, .ref (ad i)), (1, .ref (ad ia)), (2, .ref (ad ib)), (3, .int (iI ((f : Nat) : Int))), (4, .int (iI ((v : Nat) : Int))), (5, .int (iI ((lim : Nat) : Int))), (6, .int (iI ((M : Nat) : Int))), (7, .int (iI ((h : Nat) : Int))), (8, .int (iI ((t : Nat) : Int)))]) hx hb dX0_slide_142 hl (by decide) rfl (fun ls hl => ?_)
              refine lv_goto (tgt := 12) hx hb dX0_slide_144 (by decide) ?_
              have hs9 : (p_ + 1) * v = p_ * v + v := Nat.succ_mul _ _
              exact ih3 (p_ + 1) h t (va_up Tn (f + p_ * v) (-1)) Pn Cn _ _ _ _ (by omega) hq (lt_s (fun p1 h1 => by rw [va_up_ne _ _ (by have e9 := hqv p1 h1; omega)]; exact hdone p1 h1) (by rw [va_up_self]; exact qG_no_mn hf hq (by omega))) (fun s1 h1 => by rw [va_up_ne _ _ (h1 p_ (Nat.lt_succ_self _))]; exact hold s1 (fun p1 h2 => h1 p1 (by omega))) (by omega) hfr f_m f_fr f_to f_pl f_co hP hS (by first | exact lv_sub hl [2, 3, 4, 5, 6, 7, 8, 9, 10, 1, 0] rfl | exact lv_cast (lv_sub (l' := [(0, .ref (ad i)), (1, .ref (ad ia)), (2, .ref (ad ib)), (3, .int (iI ((f : Nat) : Int))), (4, .int (iI ((v : Nat) : Int))), (5, .int (iI ((lim : Nat) : Int))), (6, .int (iI ((M : Nat) : Int))), (7, .int (iI ((h : Nat) : Int))), (8, .int (iI ((t : Nat) : Int))), (9, .int (iI (((p_ : Nat) : Int) + 1))), (10, .int (iI (((f + p_ * v : Nat) : Int) + ((v : Nat) : Int))))]) hl [2, 3, 4, 5, 6, 7, 8, 9, 10, 1, 0] rfl) (lc_s (lc_s (lc_s (lc_s (lc_s (lc_s (lc_s (lc_s (lc_s (lc_i (show ((((p_ : Nat) : Int) + 1) : Int) = (((p_ + 1) : Nat) : Int) by omega) (lc_i (show ((((f + p_ * v : Nat) : Int) + ((v : Nat) : Int)) : Int) = ((f + (p_ + 1) * v : Nat) : Int) by omega) rfl))))))))))))
            · skip
              have hrg9 := hrg
              refine lv_aload_n hx hb dX0_slide_119 rfl (lv_at hl 0 rfl) ?_
              refine n_get hx hb hts u_X0 hown hK hP (by omega) f_m rfl 3 (by decide) (nT_m wf_X0_23) rfl dX0_slide_120 ?_
              refine lv_iload hx hb dX0_slide_123 (lv_at hl 7 rfl) ?_
              refine n_iald hx hb hK hP h (by omega) f_co (by omega) (by omega) (by decide) dX0_slide_125 ?_
              have ho12 := hrg h (by omega) (by omega)
              refine lv_iload hx hb dX0_slide_126 (lv_at hl 9 rfl) ?_
              refine n_iadd hx hb dX0_slide_128 ?_
              refine lv_goto (tgt := 133) hx hb dX0_slide_129 (by decide) ?_
              refine n_iast hx hb hK hJ hP hS (f + p_ * v) (by omega) f_to (by omega) (by omega) (by decide) dX0_slide_133 (fun w13 H locs f_to hne14 hP hS => ?_)
              have f_m := (hne14 i (by omega)).trans f_m
              have f_fr := (hne14 ia (by omega)).trans f_fr
              have f_pl := (hne14 (i + 12) (by omega)).trans f_pl
              have f_co := (hne14 (i + 13) (by omega)).trans f_co
              have hfr : ∀ j, j ≠ ib → j ≠ (i + 12) → j ≠ (i + 13) → w13 j = w j := fun j a0 a1 a2 => (hne14 j (by omega)).trans (hfr j a0 a1 a2)
              refine lv_iinc (v := iI (((p_ : Nat) : Int) + 1)) (lv' := [(9, .int (iI (((p_ : Nat) : Int) + 1))), (0, .ref (ad i)), (1, .ref (ad ia)), (2, .ref (ad ib)), (3, .int (iI ((f : Nat) : Int))), (4, .int (iI ((v : Nat) : Int))), (5, .int (iI ((lim : Nat) : Int))), (6, .int (iI ((M : Nat) : Int))), (7, .int (iI ((h : Nat) : Int))), (8, .int (iI ((t : Nat) : Int))), (10, .int (iI ((f + p_ * v : Nat) : Int)))]) hx hb dX0_slide_134 hl (k := 9) rfl (by first | exact iI_add _ _ | exact (iI_add _ _).trans (congrArg iI (by omega))) (by decide) rfl (fun ls hl => ?_)
              refine lv_iload hx hb dX0_slide_137 (lv_at hl 10 rfl) ?_
              refine lv_iload hx hb dX0_slide_139 (lv_at hl 5 rfl) ?_
              refine n_iadd hx hb dX0_slide_141 ?_
              refine lv_istore (lv' := [(10, .int (iI (((f + p_ * v : Nat) : Int) + ((v : Nat) : Int)))), (9, .int (iI (((p_ : Nat) : Int) + 1))), (0, .ref (ad i)), (1, .ref (ad ia)), (2, .ref (ad ib)), (3, .int (iI ((f : Nat) : Int))), (4, .int (iI ((v : Nat) : Int))), (5, .int (iI ((lim : Nat) : Int))), (6, .int (iI ((M : Nat) : Int))), (7, .int (iI ((h : Nat) : Int))), (8, .int (iI ((t : Nat) : Int)))]) hx hb dX0_slide_142 hl (by decide) rfl (fun ls hl => ?_)
              refine lv_goto (tgt := 12) hx hb dX0_slide_144 (by decide) ?_
              have hs9 : (p_ + 1) * v = p_ * v + v := Nat.succ_mul _ _
              exact ih3 (p_ + 1) h t (va_up Tn (f + p_ * v) (Cn h + ((p_ : Nat) : Int))) Pn Cn _ _ _ _ (by omega) hq (lt_s (fun p1 h1 => by rw [va_up_ne _ _ (by have e9 := hqv p1 h1; omega)]; exact hdone p1 h1) (by rw [va_up_self]; exact qG_mn hf hq (by omega))) (fun s1 h1 => by rw [va_up_ne _ _ (h1 p_ (Nat.lt_succ_self _))]; exact hold s1 (fun p1 h2 => h1 p1 (by omega))) (by omega) hfr f_m f_fr f_to f_pl f_co hP hS (by first | exact lv_sub hl [2, 3, 4, 5, 6, 7, 8, 9, 10, 1, 0] rfl | exact lv_cast (lv_sub (l' := [(0, .ref (ad i)), (1, .ref (ad ia)), (2, .ref (ad ib)), (3, .int (iI ((f : Nat) : Int))), (4, .int (iI ((v : Nat) : Int))), (5, .int (iI ((lim : Nat) : Int))), (6, .int (iI ((M : Nat) : Int))), (7, .int (iI ((h : Nat) : Int))), (8, .int (iI ((t : Nat) : Int))), (9, .int (iI (((p_ : Nat) : Int) + 1))), (10, .int (iI (((f + p_ * v : Nat) : Int) + ((v : Nat) : Int))))]) hl [2, 3, 4, 5, 6, 7, 8, 9, 10, 1, 0] rfl) (lc_s (lc_s (lc_s (lc_s (lc_s (lc_s (lc_s (lc_s (lc_s (lc_i (show ((((p_ : Nat) : Int) + 1) : Int) = (((p_ + 1) : Nat) : Int) by omega) (lc_i (show ((((f + p_ * v : Nat) : Int) + ((v : Nat) : Int)) : Int) = ((f + (p_ + 1) * v : Nat) : Int) by omega) rfl))))))))))))
          refine lv_iload hx hb dX0_slide_84 (lv_at hl 7 rfl) ?_
          refine lv_iload hx hb dX0_slide_86 (lv_at hl 8 rfl) ?_
          refine n_icmp_ge (tgt := 109) hx hb dX0_slide_88 (by decide) (by omega) (by omega) (fun hc88 => ?_) (fun hc88 => ?_)
          · skip
            exact lp7 h _ _ _ _ (qG_stay hq (Or.inl (by omega))) hfr f_m f_fr f_to f_pl f_co hP hS (lv_sub hl [0, 1, 2, 3, 4, 5, 6, 7, 8, 9, 10] rfl)
          · skip
            refine lv_aload_n hx hb dX0_slide_91 rfl (lv_at hl 0 rfl) ?_
            refine n_get hx hb hts u_X0 hown hK hP (by omega) f_m rfl 2 (by decide) (nT_m wf_X0_20) rfl dX0_slide_92 ?_
            refine lv_iload hx hb dX0_slide_95 (lv_at hl 7 rfl) ?_
            refine n_iald hx hb hK hP h (by omega) f_pl (by omega) (by omega) (by decide) dX0_slide_97 ?_
            have ho15 := hrg h (by omega) (by omega)
            refine lv_iload hx hb dX0_slide_98 (lv_at hl 9 rfl) ?_
            refine lv_iload hx hb dX0_slide_100 (lv_at hl 5 rfl) ?_
            refine n_isub hx hb dX0_slide_102 ?_
            refine n_icmp_ge (tgt := 109) hx hb dX0_slide_103 (by decide) (by omega) (by omega) (fun hc103 => ?_) (fun hc103 => ?_)
            · skip
              exact lp7 h _ _ _ _ (qG_stay hq (Or.inr hc103)) hfr f_m f_fr f_to f_pl f_co hP hS (lv_sub hl [0, 1, 2, 3, 4, 5, 6, 7, 8, 9, 10] rfl)
            · skip
              refine lv_iinc (v := iI (((h : Nat) : Int) + 1)) (lv' := [(7, .int (iI (((h : Nat) : Int) + 1))), (0, .ref (ad i)), (1, .ref (ad ia)), (2, .ref (ad ib)), (3, .int (iI ((f : Nat) : Int))), (4, .int (iI ((v : Nat) : Int))), (5, .int (iI ((lim : Nat) : Int))), (6, .int (iI ((M : Nat) : Int))), (8, .int (iI ((t : Nat) : Int))), (9, .int (iI ((p_ : Nat) : Int))), (10, .int (iI ((f + p_ * v : Nat) : Int)))]) hx hb dX0_slide_106 hl (k := 7) rfl (by first | exact iI_add _ _ | exact (iI_add _ _).trans (congrArg iI (by omega))) (by decide) rfl (fun ls hl => ?_)
              exact lp7 (h + 1) _ _ _ _ (qG_pop hq (by omega) hc103) hfr f_m f_fr f_to f_pl f_co hP hS (by first | exact lv_sub hl [1, 2, 3, 4, 5, 6, 7, 0, 8, 9, 10] rfl | exact lv_cast (lv_sub (l' := [(0, .ref (ad i)), (1, .ref (ad ia)), (2, .ref (ad ib)), (3, .int (iI ((f : Nat) : Int))), (4, .int (iI ((v : Nat) : Int))), (5, .int (iI ((lim : Nat) : Int))), (6, .int (iI ((M : Nat) : Int))), (7, .int (iI (((h : Nat) : Int) + 1))), (8, .int (iI ((t : Nat) : Int))), (9, .int (iI ((p_ : Nat) : Int))), (10, .int (iI ((f + p_ * v : Nat) : Int)))]) hl [1, 2, 3, 4, 5, 6, 7, 0, 8, 9, 10] rfl) (lc_s (lc_s (lc_s (lc_s (lc_s (lc_s (lc_s (lc_i (show ((((h : Nat) : Int) + 1) : Int) = (((h + 1) : Nat) : Int) by omega) (lc_s (lc_s (lc_s rfl))))))))))))
        refine lv_aload_n hx hb dX0_slide_19 rfl (lv_at hl 1 rfl) ?_
        refine lv_iload hx hb dX0_slide_20 (lv_at hl 10 rfl) ?_
        refine n_iald hx hb hK hP (f + p_ * v) (by omega) f_fr (by omega) (by omega) (by decide) dX0_slide_22 ?_
        have ho16 := hA (f + p_ * v) (by omega)
        refine n_iconst hx hb dX0_slide_23 ?_
        refine n_icmp_eq (tgt := 84) hx hb dX0_slide_24 (by decide) (by omega) (by omega) (fun hc24 => ?_) (fun hc24 => ?_)
        · skip
          exact lp4 t Pn Cn _ _ _ _ (qG_no hq hc24) hfr f_m f_fr f_to f_pl f_co hP hS (lv_sub hl [0, 1, 2, 3, 4, 5, 6, 7, 8, 9, 10] rfl)
        · skip
          refine lv_aload_n hx hb dX0_slide_27 rfl (lv_at hl 1 rfl) ?_
          refine lv_iload hx hb dX0_slide_28 (lv_at hl 10 rfl) ?_
          refine n_iald hx hb hK hP (f + p_ * v) (by omega) f_fr (by omega) (by omega) (by decide) dX0_slide_30 ?_
          have ho17 := hA (f + p_ * v) (by omega)
          refine lv_iload hx hb dX0_slide_31 (lv_at hl 9 rfl) ?_
          refine n_isub hx hb dX0_slide_33 ?_
          refine lv_istore (lv' := [(11, .int (iI (A (f + p_ * v) - ((p_ : Nat) : Int)))), (0, .ref (ad i)), (1, .ref (ad ia)), (2, .ref (ad ib)), (3, .int (iI ((f : Nat) : Int))), (4, .int (iI ((v : Nat) : Int))), (5, .int (iI ((lim : Nat) : Int))), (6, .int (iI ((M : Nat) : Int))), (7, .int (iI ((h : Nat) : Int))), (8, .int (iI ((t : Nat) : Int))), (9, .int (iI ((p_ : Nat) : Int))), (10, .int (iI ((f + p_ * v : Nat) : Int)))]) hx hb dX0_slide_34 hl (by decide) rfl (fun ls hl => ?_)
          have lp18 : ∀ (fu : Nat), ∀ (t : Nat), ∀ (w19 : Nat → va_E) (H : Heap) (locs : List Loc), ∀ (ls : Array Slot), t < fu → qJ A f v lim p_ h t Pn Cn (A (f + p_ * v) - ((p_ : Nat) : Int)) → (∀ j, j ≠ ib → j ≠ (i + 12) → j ≠ (i + 13) → w19 j = w j) → w19 i = .inr (0, [.ref (ad (i + 1)), .ref (ad (i + 2)), .ref (ad (i + 12)), .ref (ad (i + 13))]) → w19 ia = aI G 2001 A → w19 ib = aI G 2001 Tn → w19 (i + 12) = aI G 2001 Pn → w19 (i + 13) = aI G 2001 Cn → va_P G.1 vwCl (nL N ad w19) H → va_S (nA N ad s.heap.size) s.heap H locs → lv_has ls 12 [(0, .ref (ad i)), (1, .ref (ad ia)), (2, .ref (ad ib)), (3, .int (iI ((f : Nat) : Int))), (4, .int (iI ((v : Nat) : Int))), (5, .int (iI ((lim : Nat) : Int))), (6, .int (iI ((M : Nat) : Int))), (7, .int (iI ((h : Nat) : Int))), (8, .int (iI ((t : Nat) : Int))), (9, .int (iI ((p_ : Nat) : Int))), (10, .int (iI ((f + p_ * v : Nat) : Int))), (11, .int (iI (A (f + p_ * v) - ((p_ : Nat) : Int))))] → W p l e ({ frames := 0, cells := 0, slots := 0, locals := 0 } : Room) s m ([.ref (ad i), .ref (ad ia), .ref (ad ib), .int (iI ((f : Nat) : Int)), .int (iI ((v : Nat) : Int)), .int (iI ((lim : Nat) : Int)), .int (iI ((M : Nat) : Int))] : List Value).toArray below meth cd H locs 0 0 Q (F0 m 36 ls []) := by
            intro fu
            induction fu with
            | zero =>
              intro t w19 H locs ls hfu hj hfr f_m f_fr f_to f_pl f_co hP hS hl
              exact absurd hfu (Nat.not_lt_zero _)
            | succ fu ih20 =>
              intro t w19 H locs ls hfu hj hfr f_m f_fr f_to f_pl f_co hP hS hl
              have ht8 := hj.1
              have hrg := qJ_rng hj hA (fun q9 h9 => by have := hqv q9 h9; omega) (by omega) hM
              refine lv_iload hx hb dX0_slide_36 (lv_at hl 8 rfl) ?_
              refine lv_iload hx hb dX0_slide_38 (lv_at hl 7 rfl) ?_
              refine n_icmp_le (tgt := 63) hx hb dX0_slide_40 (by decide) (by omega) (by omega) (fun hc40 => ?_) (fun hc40 => ?_)
              · skip
                refine lv_aload_n hx hb dX0_slide_63 rfl (lv_at hl 0 rfl) ?_
                refine n_get hx hb hts u_X0 hown hK hP (by omega) f_m rfl 2 (by decide) (nT_m wf_X0_20) rfl dX0_slide_64 ?_
                refine lv_iload hx hb dX0_slide_67 (lv_at hl 8 rfl) ?_
                refine lv_iload hx hb dX0_slide_69 (lv_at hl 9 rfl) ?_
                refine n_iast hx hb hK hJ hP hS t (by omega) f_pl (by omega) (by omega) (by decide) dX0_slide_71 (fun w21 H locs f_pl hne22 hP hS => ?_)
                have f_m := (hne22 i (by omega)).trans f_m
                have f_fr := (hne22 ia (by omega)).trans f_fr
                have f_to := (hne22 ib (by omega)).trans f_to
                have f_co := (hne22 (i + 13) (by omega)).trans f_co
                have hfr : ∀ j, j ≠ ib → j ≠ (i + 12) → j ≠ (i + 13) → w21 j = w j := fun j a0 a1 a2 => (hne22 j (by omega)).trans (hfr j a0 a1 a2)
                refine lv_aload_n hx hb dX0_slide_72 rfl (lv_at hl 0 rfl) ?_
                refine n_get hx hb hts u_X0 hown hK hP (by omega) f_m rfl 3 (by decide) (nT_m wf_X0_23) rfl dX0_slide_73 ?_
                refine lv_iload hx hb dX0_slide_76 (lv_at hl 8 rfl) ?_
                refine lv_iload hx hb dX0_slide_78 (lv_at hl 11 rfl) ?_
                refine n_iast hx hb hK hJ hP hS t (by omega) f_co (by omega) (by omega) (by decide) dX0_slide_80 (fun w23 H locs f_co hne24 hP hS => ?_)
                have f_m := (hne24 i (by omega)).trans f_m
                have f_fr := (hne24 ia (by omega)).trans f_fr
                have f_to := (hne24 ib (by omega)).trans f_to
                have f_pl := (hne24 (i + 12) (by omega)).trans f_pl
                have hfr : ∀ j, j ≠ ib → j ≠ (i + 12) → j ≠ (i + 13) → w23 j = w j := fun j a0 a1 a2 => (hne24 j (by omega)).trans (hfr j a0 a1 a2)
                refine lv_iinc (v := iI (((t : Nat) : Int) + 1)) (lv' := [(8, .int (iI (((t : Nat) : Int) + 1))), (0, .ref (ad i)), (1, .ref (ad ia)), (2, .ref (ad ib)), (3, .int (iI ((f : Nat) : Int))), (4, .int (iI ((v : Nat) : Int))), (5, .int (iI ((lim : Nat) : Int))), (6, .int (iI ((M : Nat) : Int))), (7, .int (iI ((h : Nat) : Int))), (9, .int (iI ((p_ : Nat) : Int))), (10, .int (iI ((f + p_ * v : Nat) : Int))), (11, .int (iI (A (f + p_ * v) - ((p_ : Nat) : Int))))]) hx hb dX0_slide_81 hl (k := 8) rfl (by first | exact iI_add _ _ | exact (iI_add _ _).trans (congrArg iI (by omega))) (by decide) rfl (fun ls hl => ?_)
                exact lp4 (t + 1) (va_up Pn t ((p_ : Nat) : Int)) (va_up Cn t (A (f + p_ * v) - ((p_ : Nat) : Int))) _ _ _ _ (qJ_push hj (Or.inl (by omega)) hc24 rfl) hfr f_m f_fr f_to f_pl f_co hP hS (by first | exact lv_sub hl [1, 2, 3, 4, 5, 6, 7, 8, 0, 9, 10] rfl | exact lv_cast (lv_sub (l' := [(0, .ref (ad i)), (1, .ref (ad ia)), (2, .ref (ad ib)), (3, .int (iI ((f : Nat) : Int))), (4, .int (iI ((v : Nat) : Int))), (5, .int (iI ((lim : Nat) : Int))), (6, .int (iI ((M : Nat) : Int))), (7, .int (iI ((h : Nat) : Int))), (8, .int (iI (((t : Nat) : Int) + 1))), (9, .int (iI ((p_ : Nat) : Int))), (10, .int (iI ((f + p_ * v : Nat) : Int)))]) hl [1, 2, 3, 4, 5, 6, 7, 8, 0, 9, 10] rfl) (lc_s (lc_s (lc_s (lc_s (lc_s (lc_s (lc_s (lc_s (lc_i (show ((((t : Nat) : Int) + 1) : Int) = (((t + 1) : Nat) : Int) by omega) (lc_s (lc_s rfl))))))))))))
              · skip
                refine lv_aload_n hx hb dX0_slide_43 rfl (lv_at hl 0 rfl) ?_
                refine n_get hx hb hts u_X0 hown hK hP (by omega) f_m rfl 3 (by decide) (nT_m wf_X0_23) rfl dX0_slide_44 ?_
                refine lv_iload hx hb dX0_slide_47 (lv_at hl 8 rfl) ?_
                refine n_iconst hx hb dX0_slide_49 ?_
                refine n_isub hx hb dX0_slide_50 ?_
                refine n_iald hx hb hK hP (t - 1) (by omega) f_co (by omega) (by omega) (by decide) dX0_slide_51 ?_
                have ho25 := hrg (t - 1) (by omega) (by omega)
                refine lv_iload hx hb dX0_slide_52 (lv_at hl 11 rfl) ?_
                refine n_icmp_lt (tgt := 63) hx hb dX0_slide_54 (by decide) (by omega) (by omega) (fun hc54 => ?_) (fun hc54 => ?_)
                · skip
                  refine lv_aload_n hx hb dX0_slide_63 rfl (lv_at hl 0 rfl) ?_
                  refine n_get hx hb hts u_X0 hown hK hP (by omega) f_m rfl 2 (by decide) (nT_m wf_X0_20) rfl dX0_slide_64 ?_
                  refine lv_iload hx hb dX0_slide_67 (lv_at hl 8 rfl) ?_
                  refine lv_iload hx hb dX0_slide_69 (lv_at hl 9 rfl) ?_
                  refine n_iast hx hb hK hJ hP hS t (by omega) f_pl (by omega) (by omega) (by decide) dX0_slide_71 (fun w26 H locs f_pl hne27 hP hS => ?_)
                  have f_m := (hne27 i (by omega)).trans f_m
                  have f_fr := (hne27 ia (by omega)).trans f_fr
                  have f_to := (hne27 ib (by omega)).trans f_to
                  have f_co := (hne27 (i + 13) (by omega)).trans f_co
                  have hfr : ∀ j, j ≠ ib → j ≠ (i + 12) → j ≠ (i + 13) → w26 j = w j := fun j a0 a1 a2 => (hne27 j (by omega)).trans (hfr j a0 a1 a2)
                  refine lv_aload_n hx hb dX0_slide_72 rfl (lv_at hl 0 rfl) ?_
                  refine n_get hx hb hts u_X0 hown hK hP (by omega) f_m rfl 3 (by decide) (nT_m wf_X0_23) rfl dX0_slide_73 ?_
                  refine lv_iload hx hb dX0_slide_76 (lv_at hl 8 rfl) ?_
                  refine lv_iload hx hb dX0_slide_78 (lv_at hl 11 rfl) ?_
                  refine n_iast hx hb hK hJ hP hS t (by omega) f_co (by omega) (by omega) (by decide) dX0_slide_80 (fun w28 H locs f_co hne29 hP hS => ?_)
                  have f_m := (hne29 i (by omega)).trans f_m
                  have f_fr := (hne29 ia (by omega)).trans f_fr
                  have f_to := (hne29 ib (by omega)).trans f_to
                  have f_pl := (hne29 (i + 12) (by omega)).trans f_pl
                  have hfr : ∀ j, j ≠ ib → j ≠ (i + 12) → j ≠ (i + 13) → w28 j = w j := fun j a0 a1 a2 => (hne29 j (by omega)).trans (hfr j a0 a1 a2)
                  refine lv_iinc (v := iI (((t : Nat) : Int) + 1)) (lv' := [(8, .int (iI (((t : Nat) : Int) + 1))), (0, .ref (ad i)), (1, .ref (ad ia)), (2, .ref (ad ib)), (3, .int (iI ((f : Nat) : Int))), (4, .int (iI ((v : Nat) : Int))), (5, .int (iI ((lim : Nat) : Int))), (6, .int (iI ((M : Nat) : Int))), (7, .int (iI ((h : Nat) : Int))), (9, .int (iI ((p_ : Nat) : Int))), (10, .int (iI ((f + p_ * v : Nat) : Int))), (11, .int (iI (A (f + p_ * v) - ((p_ : Nat) : Int))))]) hx hb dX0_slide_81 hl (k := 8) rfl (by first | exact iI_add _ _ | exact (iI_add _ _).trans (congrArg iI (by omega))) (by decide) rfl (fun ls hl => ?_)
                  exact lp4 (t + 1) (va_up Pn t ((p_ : Nat) : Int)) (va_up Cn t (A (f + p_ * v) - ((p_ : Nat) : Int))) _ _ _ _ (qJ_push hj (Or.inr hc54) hc24 rfl) hfr f_m f_fr f_to f_pl f_co hP hS (by first | exact lv_sub hl [1, 2, 3, 4, 5, 6, 7, 8, 0, 9, 10] rfl | exact lv_cast (lv_sub (l' := [(0, .ref (ad i)), (1, .ref (ad ia)), (2, .ref (ad ib)), (3, .int (iI ((f : Nat) : Int))), (4, .int (iI ((v : Nat) : Int))), (5, .int (iI ((lim : Nat) : Int))), (6, .int (iI ((M : Nat) : Int))), (7, .int (iI ((h : Nat) : Int))), (8, .int (iI (((t : Nat) : Int) + 1))), (9, .int (iI ((p_ : Nat) : Int))), (10, .int (iI ((f + p_ * v : Nat) : Int)))]) hl [1, 2, 3, 4, 5, 6, 7, 8, 0, 9, 10] rfl) (lc_s (lc_s (lc_s (lc_s (lc_s (lc_s (lc_s (lc_s (lc_i (show ((((t : Nat) : Int) + 1) : Int) = (((t + 1) : Nat) : Int) by omega) (lc_s (lc_s rfl))))))))))))
                · skip
                  refine lv_iinc (v := iI (((t : Nat) : Int) - 1)) (lv' := [(8, .int (iI (((t : Nat) : Int) - 1))), (0, .ref (ad i)), (1, .ref (ad ia)), (2, .ref (ad ib)), (3, .int (iI ((f : Nat) : Int))), (4, .int (iI ((v : Nat) : Int))), (5, .int (iI ((lim : Nat) : Int))), (6, .int (iI ((M : Nat) : Int))), (7, .int (iI ((h : Nat) : Int))), (9, .int (iI ((p_ : Nat) : Int))), (10, .int (iI ((f + p_ * v : Nat) : Int))), (11, .int (iI (A (f + p_ * v) - ((p_ : Nat) : Int))))]) hx hb dX0_slide_57 hl (k := 8) rfl (by first | exact iI_add _ _ | exact (iI_add _ _).trans (congrArg iI (by omega))) (by decide) rfl (fun ls hl => ?_)
                  refine lv_goto (tgt := 36) hx hb dX0_slide_60 (by decide) ?_
                  obtain ⟨t1, rfl⟩ : ∃ t1, t = t1 + 1 := ⟨t - 1, by omega⟩
                  rw [show t1 + 1 - 1 = t1 by omega] at hc54
                  exact ih20 t1 _ _ _ _ (by omega) (qJ_pop hj (by omega) hc54) hfr f_m f_fr f_to f_pl f_co hP hS (by first | exact lv_sub hl [1, 2, 3, 4, 5, 6, 7, 8, 0, 9, 10, 11] rfl | exact lv_cast (lv_sub (l' := [(0, .ref (ad i)), (1, .ref (ad ia)), (2, .ref (ad ib)), (3, .int (iI ((f : Nat) : Int))), (4, .int (iI ((v : Nat) : Int))), (5, .int (iI ((lim : Nat) : Int))), (6, .int (iI ((M : Nat) : Int))), (7, .int (iI ((h : Nat) : Int))), (8, .int (iI ((((t1 + 1) : Nat) : Int) - 1))), (9, .int (iI ((p_ : Nat) : Int))), (10, .int (iI ((f + p_ * v : Nat) : Int))), (11, .int (iI (A (f + p_ * v) - ((p_ : Nat) : Int))))]) hl [1, 2, 3, 4, 5, 6, 7, 8, 0, 9, 10, 11] rfl) (lc_s (lc_s (lc_s (lc_s (lc_s (lc_s (lc_s (lc_s (lc_i (show (((((t1 + 1) : Nat) : Int) - 1) : Int) = ((t1 : Nat) : Int) by omega) (lc_s (lc_s (lc_s rfl)))))))))))))
          exact lp18 (t + 1) t _ _ _ _ (Nat.lt_succ_self _) (qJ_in hq _) hfr f_m f_fr f_to f_pl f_co hP hS (by first | exact lv_sub hl [1, 2, 3, 4, 5, 6, 7, 8, 9, 10, 11, 0] rfl | exact lv_cast (lv_sub (l' := [(0, .ref (ad i)), (1, .ref (ad ia)), (2, .ref (ad ib)), (3, .int (iI ((f : Nat) : Int))), (4, .int (iI ((v : Nat) : Int))), (5, .int (iI ((lim : Nat) : Int))), (6, .int (iI ((M : Nat) : Int))), (7, .int (iI ((h : Nat) : Int))), (8, .int (iI ((t : Nat) : Int))), (9, .int (iI ((p_ : Nat) : Int))), (10, .int (iI ((f + p_ * v : Nat) : Int))), (11, .int (iI (A (f + p_ * v) - ((p_ : Nat) : Int))))]) hl [1, 2, 3, 4, 5, 6, 7, 8, 9, 10, 11, 0] rfl) (lc_s (lc_s (lc_s (lc_s (lc_s (lc_s (lc_s (lc_s (lc_s (lc_s (lc_s (lc_i (show ((A (f + p_ * v) - ((p_ : Nat) : Int)) : Int) = A (f + p_ * v) - ((p_ : Nat) : Int) by omega) rfl)))))))))))))
  exact lp1 (M + v - (f + 0 * v) + 1) 0 0 0 T P0 C0 _ _ _ _ (Nat.lt_succ_self _) (qG_0 A f v lim P0 C0) (fun p1 h1 => absurd h1 (Nat.not_lt_zero _)) (fun _ _ => rfl) (by omega) hfr f_m f_fr f_to f_pl f_co hP hS (by first | exact lv_sub hl [4, 5, 6, 7, 8, 9, 10, 3, 2, 1, 0] rfl | exact lv_cast (lv_sub (l' := [(0, .ref (ad i)), (1, .ref (ad ia)), (2, .ref (ad ib)), (3, .int (iI ((f : Nat) : Int))), (4, .int (iI ((v : Nat) : Int))), (5, .int (iI ((lim : Nat) : Int))), (6, .int (iI ((M : Nat) : Int))), (7, .int (iI 0)), (8, .int (iI 0)), (9, .int (iI 0)), (10, .int (iI ((f : Nat) : Int)))]) hl [4, 5, 6, 7, 8, 9, 10, 3, 2, 1, 0] rfl) (lc_s (lc_s (lc_s (lc_s (lc_s (lc_s (lc_s (lc_i (show (0 : Int) = ((0 : Nat) : Int) by omega) (lc_i (show (0 : Int) = ((0 : Nat) : Int) by omega) (lc_i (show (0 : Int) = ((0 : Nat) : Int) by omega) (lc_i (show (((f : Nat) : Int) : Int) = ((f + 0 * v : Nat) : Int) by omega) rfl))))))))))))
end
section

theorem allow_s {A Tn T1 : Nat → Int} {v lim M f : Nat} (hf : f < v) (hd : ∀ s1, s1 ≤ M → s1 % v < f → isMn A v lim s1 (Tn s1)) (h2 : ∀ p1, f + p1 * v ≤ M → isMn A v lim (f + p1 * v) (T1 (f + p1 * v))) (h3 : ∀ s1, (∀ p1, s1 = f + p1 * v → M < s1) → T1 s1 = Tn s1) : ∀ s1, s1 ≤ M → s1 % v < f + 1 → isMn A v lim s1 (T1 s1) := by
  intro s1 hs hm
  have e1 : s1 = s1 % v + s1 / v * v := by rw [Nat.mul_comm]; exact (Nat.mod_add_div s1 v).symm
  by_cases h : s1 % v = f
  · rw [h] at e1
    have := h2 (s1 / v) (by omega)
    rw [← e1] at this
    exact this
  · rw [h3 s1 (fun p1 e => by
      have : s1 % v = f := by rw [e, Nat.add_mul_mod_self_right, Nat.mod_eq_of_lt hf]
      omega)]
    exact hd s1 hs (by omega)
theorem fam_up {G : nG} {i n : Nat} {tb : Nat → Nat → Int} {w w1 : Nat → va_E} {Tn : Nat → Int} (j : Nat) (hne : ∀ k, k < n → k ≠ j → w1 (i + 3 + k) = w (i + 3 + k)) (hw : ∀ k, k < n → w (i + 3 + k) = aI G 2001 (tb k)) (hT : w1 (i + 3 + j) = aI G 2001 Tn) : ∀ k, k < n → w1 (i + 3 + k) = aI G 2001 (va_up tb j Tn k) := by
  intro k hk
  by_cases h : k = j
  · subst h
    rw [hT, va_up_self]
  · rw [hne k hk h, hw k hk, va_up_ne _ _ h]
def dn (P : Nat → Bool) : Nat → Nat
  | 0 => 0
  | n + 1 => if P (n + 1) then n + 1 else dn P n
theorem dn_y {P : Nat → Bool} {n : Nat} (h : P (n + 1) = true) : dn P (n + 1) = n + 1 := by
  show (if P (n + 1) then _ else _) = _
  rw [if_pos h]
theorem dn_n {P : Nat → Bool} {n : Nat} (h : P (n + 1) = false) : dn P (n + 1) = dn P n := by
  show (if P (n + 1) then _ else _) = _
  rw [if_neg (by rw [h]; decide)]
theorem dn_le (P : Nat → Bool) : ∀ n, dn P n ≤ n
  | 0 => Nat.le_refl _
  | n + 1 => by
    have := dn_le P n
    by_cases h : P (n + 1) = true
    · rw [dn_y h]
      omega
    · rw [dn_n (by simpa using h)]
      omega
def wrP (tb : Nat → Nat → Int) (q v left n : Nat) : Bool := decide (¬ tb (q - 1) (left - n * v) = -1 ∧ tb (q - 1) (left - n * v) + (n : Int) = tb q left)
def wrN (tb : Nat → Nat → Int) (val fal lim : Nat → Nat) (cnt left j : Nat) : Nat := dn (wrP tb (cnt - j) (val (fal j)) left) (min (lim (fal j)) (left / val (fal j)))
def wrL (tb : Nat → Nat → Int) (val fal lim : Nat → Nat) (cnt sm : Nat) : Nat → Nat
  | 0 => sm
  | j + 1 => wrL tb val fal lim cnt sm j - wrN tb val fal lim cnt (wrL tb val fal lim cnt sm j) j * val (fal j)
def wrR (tb : Nat → Nat → Int) (val fal lim : Nat → Nat) (cnt sm : Nat) (row : Nat → Int) : Nat → (Nat → Int)
  | 0 => row
  | j + 1 => va_up (wrR tb val fal lim cnt sm row j) (fal j) (wrN tb val fal lim cnt (wrL tb val fal lim cnt sm j) j : Nat)
theorem wrL_le (tb : Nat → Nat → Int) (val fal lim : Nat → Nat) (cnt sm : Nat) : ∀ j, wrL tb val fal lim cnt sm j ≤ sm
  | 0 => Nat.le_refl _
  | j + 1 => Nat.le_trans (Nat.sub_le _ _) (wrL_le tb val fal lim cnt sm j)
def tbOK (val fal lim : Nat → Nat) (cnt sm : Nat) (tb : Nat → Nat → Int) : Prop := (∀ s1, s1 ≤ sm → tb 0 s1 = if s1 = 0 then 0 else -1) ∧ ∀ k, k < cnt → ∀ s1, s1 ≤ sm → isMn (tb k) (val (fal (cnt - 1 - k))) (lim (fal (cnt - 1 - k))) s1 (tb (k + 1) s1)
def tbIn (val fal lim : Nat → Nat) (cnt sm ii : Nat) (tb : Nat → Nat → Int) : Prop := (∀ s1, s1 ≤ sm → tb 0 s1 = if s1 = 0 then 0 else -1) ∧ ∀ k, k < ii → ∀ s1, s1 ≤ sm → isMn (tb k) (val (fal (cnt - 1 - k))) (lim (fal (cnt - 1 - k))) s1 (tb (k + 1) s1)
theorem tbIn_rng {val fal lim : Nat → Nat} {cnt sm ii : Nat} {tb : Nat → Nat → Int} (hii : ii ≤ cnt) (hval1 : ∀ k, k < cnt → 1 ≤ val k) (hfal : ∀ k, k < cnt → fal k < cnt) (h : tbIn val fal lim cnt sm ii tb) : ∀ k, k ≤ ii → ∀ s1, s1 ≤ sm → -1 ≤ tb k s1 ∧ tb k s1 ≤ s1
  | 0, _, s1, hs => by
    rw [h.1 s1 hs]
    split <;> omega
  | k + 1, hk, s1, hs => isMn_rng (hval1 _ (hfal _ (by omega))) (fun q hq => tbIn_rng hii hval1 hfal h k (by omega) q (by omega)) (h.2 k (by omega) s1 hs)
theorem tbIn_s {val fal lim : Nat → Nat} {cnt sm ii : Nat} {tb : Nat → Nat → Int} {Tn : Nat → Int} (h : tbIn val fal lim cnt sm ii tb) (hT : ∀ s1, s1 ≤ sm → isMn (tb ii) (val (fal (cnt - 1 - ii))) (lim (fal (cnt - 1 - ii))) s1 (Tn s1)) : tbIn val fal lim cnt sm (ii + 1) (va_up tb (ii + 1) Tn) := by
  refine ⟨fun s1 hs => ?_, fun k hk s1 hs => ?_⟩
  · rw [va_up_ne _ _ (by omega)]
    exact h.1 s1 hs
  · by_cases e : k = ii
    · subst e
      rw [va_up_ne _ _ (by omega), va_up_self]
      exact hT s1 hs
    · rw [va_up_ne _ _ (by omega), va_up_ne _ _ (by omega)]
      exact h.2 k (by omega) s1 hs
theorem fill_one {F : Nat → Int} {s1 : Nat} (h : s1 < 2001) : va_up (fillF F (-1) 2001) 0 0 s1 = if s1 = 0 then 0 else -1 := by
  unfold va_up fillF
  by_cases e : s1 = 0
  · rw [if_pos e, if_pos e]
  · rw [if_neg e, if_neg e, if_pos h]
theorem min_cast (a b : Nat) : (min (a : Int) (b : Int)) = ((min a b : Nat) : Int) := by omega

theorem n_mmax {p : Program} {l : Launch} {e : Env} {R : Room} {s : State} {m : MethodId} {args : Array Value} {below : List Frame} {meth : Method} {c : Code} {H : Heap} {locs : List Loc} {cells slots : Nat} {Q : State → Prop} {cc : ByteArray} {pc : Nat} {ls : Array Slot} {rest : List Value} (hx : p.tables.exec = Jvm.exec) (hb : c.code = cc) (hml : c.maxLocals = ls.size) {own : String} {index : Nat} (hown : s.vm.findClass own = some m.cls) (hlink : (Cond.methodLink own index Lib.Math.max.name).before args s = true) (hstat : (Cond.static Lib.Math.max.name).before args s = true) (hini : (Cond.initialized "java/lang/Math").before args s = true) (hcode : (Cond.code Lib.Math.max.name Lib.Math.max.code 2 (some .int)).before args s = true) (hframes : 1 ≤ R.frames) (hlocals : (rest.map fun v => v.category).sum + 13 ≤ R.locals) (hc : cells ≤ R.cells) (hs : slots ≤ R.slots) {a b : Int} (ha : -2147483648 ≤ a ∧ a < 2147483648) (hb' : -2147483648 ≤ b ∧ b < 2147483648) (hdg : decode cc pc = .ok (.invokestatic index, 3)) (kk : W p l e R s m args below meth c H locs cells slots Q (F0 m (pc + 3) ls (.int (iI (max a b)) :: rest))) : W p l e R s m args below meth c H locs cells slots Q (F0 m pc ls (.int (iI b) :: .int (iI a) :: rest)) := by
  refine va_mmax hx hb hml hown hlink hstat hini hcode hframes hlocals hc hs hdg ?_
  have e9 : (if iI a < iI b then iI b else iI a) = iI (max a b) := by
    by_cases h : a < b
    · rw [if_pos ((iI_lt ha hb').mpr h), show max a b = b by omega]
    · rw [if_neg (fun q => h ((iI_lt ha hb').mp q)), show max a b = a by omega]
  rw [e9]
  exact kk
theorem n_mmin {p : Program} {l : Launch} {e : Env} {R : Room} {s : State} {m : MethodId} {args : Array Value} {below : List Frame} {meth : Method} {c : Code} {H : Heap} {locs : List Loc} {cells slots : Nat} {Q : State → Prop} {cc : ByteArray} {pc : Nat} {ls : Array Slot} {rest : List Value} (hx : p.tables.exec = Jvm.exec) (hb : c.code = cc) (hml : c.maxLocals = ls.size) {own : String} {index : Nat} (hown : s.vm.findClass own = some m.cls) (hlink : (Cond.methodLink own index Lib.Math.min.name).before args s = true) (hstat : (Cond.static Lib.Math.min.name).before args s = true) (hini : (Cond.initialized "java/lang/Math").before args s = true) (hcode : (Cond.code Lib.Math.min.name Lib.Math.min.code 2 (some .int)).before args s = true) (hframes : 1 ≤ R.frames) (hlocals : (rest.map fun v => v.category).sum + 13 ≤ R.locals) (hc : cells ≤ R.cells) (hs : slots ≤ R.slots) {a b : Int} (ha : -2147483648 ≤ a ∧ a < 2147483648) (hb' : -2147483648 ≤ b ∧ b < 2147483648) (hdg : decode cc pc = .ok (.invokestatic index, 3)) (kk : W p l e R s m args below meth c H locs cells slots Q (F0 m (pc + 3) ls (.int (iI (min a b)) :: rest))) : W p l e R s m args below meth c H locs cells slots Q (F0 m pc ls (.int (iI b) :: .int (iI a) :: rest)) := by
  refine va_mmin hx hb hml hown hlink hstat hini hcode hframes hlocals hc hs hdg ?_
  have e9 : (if iI b < iI a then iI b else iI a) = iI (min a b) := by
    by_cases h : b < a
    · rw [if_pos ((iI_lt hb' ha).mpr h), show min a b = b by omega]
    · rw [if_neg (fun q => h ((iI_lt hb' ha).mp q)), show min a b = a by omega]
  first
    | (rw [e9]; exact kk)
    | (have e8 : (if iI a < iI b then iI a else iI b) = iI (min a b) := by
        by_cases h : a < b
        · rw [if_pos ((iI_lt ha hb').mpr h), show min a b = a by omega]
        · rw [if_neg (fun q => h ((iI_lt ha hb').mp q)), show min a b = b by omega]
       rw [e8]; exact kk)
    | (have e8 : (if iI b < iI a then iI b else iI a) = iI (min a b) := e9
       simp only [Int32.not_lt] at *; exact kk)
theorem n_mabs {p : Program} {l : Launch} {e : Env} {R : Room} {s : State} {m : MethodId} {args : Array Value} {below : List Frame} {meth : Method} {c : Code} {H : Heap} {locs : List Loc} {cells slots : Nat} {Q : State → Prop} {cc : ByteArray} {pc : Nat} {ls : Array Slot} {rest : List Value} (hx : p.tables.exec = Jvm.exec) (hb : c.code = cc) (hml : c.maxLocals = ls.size) {own : String} {index : Nat} (hown : s.vm.findClass own = some m.cls) (hlink : (Cond.methodLink own index Lib.MathLoose.abs_long.x).before args s = true) (hstat : (Cond.static Lib.MathLoose.abs_long.x).before args s = true) (hini : (Cond.initialized "java/lang/Math").before args s = true) (hcode : (Cond.code Lib.MathLoose.abs_long.x Lib.MathLoose.abs_long.code 2 (some .long)).before args s = true) (hframes : 1 ≤ R.frames) (hlocals : (rest.map fun v => v.category).sum + 13 ≤ R.locals) (hc : cells ≤ R.cells) (hs : slots ≤ R.slots) {a : Int} (ha : -9223372036854775807 ≤ a ∧ a < 9223372036854775808) (hdg : decode cc pc = .ok (.invokestatic index, 3)) (kk : W p l e R s m args below meth c H locs cells slots Q (F0 m (pc + 3) ls (.long (jI (max a (-a))) :: rest))) : W p l e R s m args below meth c H locs cells slots Q (F0 m pc ls (.long (jI a) :: rest)) := by
  refine va_mabs_long hx hb hml hown hlink hstat hini hcode hframes hlocals hc hs hdg ?_
  have e9 : (if 0 < jI a then jI a else -jI a) = jI (max a (-a)) := by
    have h0 : (0 : Int64) = jI 0 := rfl
    by_cases h : 0 < a
    · rw [if_pos (by rw [h0]; exact (jI_lt (by decide) (by omega)).mpr h), show max a (-a) = a by omega]
    · rw [if_neg (fun q => h ((jI_lt (by decide) (by omega)).mp (by rw [← h0]; exact q))), jI_neg, show max a (-a) = -a by omega]
  rw [e9]
  exact kk
set_option maxHeartbeats 4000000 in
set_option maxRecDepth 100000 in
theorem c_X0_allow {l : Launch} {G : nG} {N : Nat} {ad : Nat → Nat} {w : Nat → va_E} {sz : Nat} (i ii v lim M : Nat) (A T P0 C0 : Nat → Int) (hN : i + 13 < N) (hii : ii < 8) (hv : 1 ≤ v ∧ v ≤ 1000) (hM : M ≤ 2000) (hlim : lim ≤ 2000) (hA : ∀ k, k ≤ M → -1 ≤ A k ∧ A k ≤ k) (f_m : w i = .inr (0, [.ref (ad (i + 1)), .ref (ad (i + 2)), .ref (ad (i + 12)), .ref (ad (i + 13))])) (f_g : w (i + 2) = aR G 5 9 (fun k => some (ad (i + 3 + k)))) (f_r0 : w (i + 3 + ii) = aI G 2001 A) (f_r1 : w (i + 3 + (ii + 1)) = aI G 2001 T) (f_pl : w (i + 12) = aI G 2001 P0) (f_co : w (i + 13) = aI G 2001 C0) : Met l yX0_allow wsX0_allow ({ frames := 1, cells := 0, slots := 0, locals := 31 }) (va_Pc [.ref (ad i), .int (iI ((ii : Nat) : Int)), .int (iI ((v : Nat) : Int)), .int (iI ((lim : Nat) : Int)), .int (iI ((M : Nat) : Int))] (nB G N ad w sz)) (nPv G N ad sz (fun u => (∀ j, j ≠ (i + 3 + (ii + 1)) → j ≠ (i + 12) → j ≠ (i + 13) → u j = w j) ∧ (∃ Tn, u (i + 3 + (ii + 1)) = aI G 2001 Tn ∧ (∀ s1, s1 ≤ M → isMn A v lim s1 (Tn s1))) ∧ (∃ Pn, u (i + 12) = aI G 2001 Pn) ∧ (∃ Cn, u (i + 13) = aI G 2001 Cn))) 0 0 (nA N ad sz) := by
  refine n_ent (cc := cX0_allow) (maxL := 6) (ret := (none : Option Jvm.ClassFile.FieldType)) (by decide) rfl (Nat.le_of_ble_eq_true rfl) ?_
  intro p e s m below meth cd hx hb hr hml hlocks hts hown hnm hsz hP hK hI Q hQ ls hl
  have hown : s.vm.findClass RX0 = some m.cls := hown
  subst hsz
  have hJ := hI.J s.heap.size
  have hS : va_S (nA N ad s.heap.size) s.heap s.heap [] := va_S.rf
  have hfr : ∀ j, j ≠ (i + 3 + (ii + 1)) → j ≠ (i + 12) → j ≠ (i + 13) → w j = w j := fun _ _ _ _ => rfl
  have hl : lv_has ls 6 [(0, .ref (ad i)), (1, .int (iI ((ii : Nat) : Int))), (2, .int (iI ((v : Nat) : Int))), (3, .int (iI ((lim : Nat) : Int))), (4, .int (iI ((M : Nat) : Int)))] := hl
  refine n_iconst hx hb dX0_allow_0 ?_
  refine lv_istore (lv' := [(5, .int (iI 0)), (0, .ref (ad i)), (1, .int (iI ((ii : Nat) : Int))), (2, .int (iI ((v : Nat) : Int))), (3, .int (iI ((lim : Nat) : Int))), (4, .int (iI ((M : Nat) : Int)))]) hx hb dX0_allow_1 hl (by decide) rfl (fun ls hl => ?_)
  have lp1 : ∀ (fu : Nat), ∀ (f : Nat) (Tn : Nat → Int) (Pn : Nat → Int) (Cn : Nat → Int), ∀ (w2 : Nat → va_E) (H : Heap) (locs : List Loc), ∀ (ls : Array Slot), v - f < fu → f ≤ v → (∀ s1, s1 ≤ M → s1 % v < f → isMn A v lim s1 (Tn s1)) → (∀ j, j ≠ (i + 3 + (ii + 1)) → j ≠ (i + 12) → j ≠ (i + 13) → w2 j = w j) → w2 i = .inr (0, [.ref (ad (i + 1)), .ref (ad (i + 2)), .ref (ad (i + 12)), .ref (ad (i + 13))]) → w2 (i + 2) = aR G 5 9 (fun k => some (ad (i + 3 + k))) → w2 (i + 3 + ii) = aI G 2001 A → w2 (i + 3 + (ii + 1)) = aI G 2001 Tn → w2 (i + 12) = aI G 2001 Pn → w2 (i + 13) = aI G 2001 Cn → va_P G.1 vwCl (nL N ad w2) H → va_S (nA N ad s.heap.size) s.heap H locs → lv_has ls 6 [(0, .ref (ad i)), (1, .int (iI ((ii : Nat) : Int))), (2, .int (iI ((v : Nat) : Int))), (3, .int (iI ((lim : Nat) : Int))), (4, .int (iI ((M : Nat) : Int))), (5, .int (iI ((f : Nat) : Int)))] → W p l e ({ frames := 1, cells := 0, slots := 0, locals := 31 } : Room) s m ([.ref (ad i), .int (iI ((ii : Nat) : Int)), .int (iI ((v : Nat) : Int)), .int (iI ((lim : Nat) : Int)), .int (iI ((M : Nat) : Int))] : List Value).toArray below meth cd H locs 0 0 Q (F0 m 3 ls []) := by
    intro fu
    induction fu with
    | zero =>
      intro f Tn Pn Cn w2 H locs ls hfu hfv hd hfr f_m f_g f_r0 f_r1 f_pl f_co hP hS hl
      exact absurd hfu (Nat.not_lt_zero _)
    | succ fu ih3 =>
      intro f Tn Pn Cn w2 H locs ls hfu hfv hd hfr f_m f_g f_r0 f_r1 f_pl f_co hP hS hl
      refine lv_iload hx hb dX0_allow_3 (lv_at hl 5 rfl) ?_
      refine lv_iload_n hx hb dX0_allow_5 rfl (lv_at hl 2 rfl) ?_
      refine n_icmp_ge (tgt := 46) hx hb dX0_allow_6 (by decide) (by omega) (by omega) (fun hc6 => ?_) (fun hc6 => ?_)
      · skip
        refine n_vretP hQ hx hb hr hlocks hP hS dX0_allow_46 ?_
        exact ⟨hfr, ⟨Tn, f_r1, fun s1 h1 => hd s1 h1 (Nat.lt_of_lt_of_le (Nat.mod_lt s1 (by omega)) (by omega))⟩, ⟨_, f_pl⟩, ⟨_, f_co⟩⟩
      · skip
        refine lv_iload hx hb dX0_allow_9 (lv_at hl 5 rfl) ?_
        refine lv_iload hx hb dX0_allow_11 (lv_at hl 4 rfl) ?_
        refine n_icmp_gt (tgt := 46) hx hb dX0_allow_13 (by decide) (by omega) (by omega) (fun hc13 => ?_) (fun hc13 => ?_)
        · skip
          refine n_vretP hQ hx hb hr hlocks hP hS dX0_allow_46 ?_
          exact ⟨hfr, ⟨Tn, f_r1, fun s1 h1 => hd s1 h1 (Nat.lt_of_le_of_lt (Nat.mod_le s1 v) (by omega))⟩, ⟨_, f_pl⟩, ⟨_, f_co⟩⟩
        · skip
          refine lv_aload_n hx hb dX0_allow_16 rfl (lv_at hl 0 rfl) ?_
          refine lv_aload_n hx hb dX0_allow_17 rfl (lv_at hl 0 rfl) ?_
          refine n_get hx hb hts u_X0 hown hK hP (by omega) f_m rfl 1 (by decide) (nT_m wf_X0_17) rfl dX0_allow_18 ?_
          refine lv_iload_n hx hb dX0_allow_21 rfl (lv_at hl 1 rfl) ?_
          refine n_aald hx hb hK hP (.array .int) ii (by omega) f_g rfl rfl (by omega) (by omega) (by decide) rfl dX0_allow_22 ?_
          refine lv_aload_n hx hb dX0_allow_23 rfl (lv_at hl 0 rfl) ?_
          refine n_get hx hb hts u_X0 hown hK hP (by omega) f_m rfl 1 (by decide) (nT_m wf_X0_17) rfl dX0_allow_24 ?_
          refine lv_iload_n hx hb dX0_allow_27 rfl (lv_at hl 1 rfl) ?_
          refine n_iconst hx hb dX0_allow_28 ?_
          refine n_iadd hx hb dX0_allow_29 ?_
          refine n_aald hx hb hK hP (.array .int) (ii + 1) (by omega) f_g rfl rfl (by omega) (by omega) (by decide) rfl dX0_allow_30 ?_
          refine lv_iload hx hb dX0_allow_31 (lv_at hl 5 rfl) ?_
          refine lv_iload_n hx hb dX0_allow_33 rfl (lv_at hl 2 rfl) ?_
          refine lv_iload_n hx hb dX0_allow_34 rfl (lv_at hl 3 rfl) ?_
          refine lv_iload hx hb dX0_allow_35 (lv_at hl 4 rfl) ?_
          refine n_cV (va_runV (As := [.ref (ad (i + 3 + ii)), .ref (ad (i + 3 + (ii + 1))), .int (iI ((f : Nat) : Int)), .int (iI ((v : Nat) : Int)), .int (iI ((lim : Nat) : Int)), .int (iI ((M : Nat) : Int))]) (rest := []) ⟨hx, hb, hml, hown, hts⟩ (c_X0_slide i (i + 3 + ii) (i + 3 + (ii + 1)) f v lim M A Tn Pn Cn hN (by omega) hv (by omega) hM hlim hA f_m f_r0 f_r1 f_pl f_co) (cwV 6 hts (nT_V wl_X0_56 wi_X0_slide ws_X0_slide wn_X0 wc_X0_slide) rfl rfl rfl (by decide +kernel) ⟨Nat.le_of_ble_eq_true rfl, Nat.le_of_ble_eq_true rfl⟩) (nB.preV hK hI hP (by omega) f_m rfl rfl) rfl rfl hl.1 rfl (lv_room (Nat.le_of_ble_eq_true rfl)) dX0_allow_37 ⟨Nat.zero_le _, Nat.zero_le _⟩) hS (fun w4 H locs hq6 hP hS => ?_)
          obtain ⟨hne7, ⟨T1, hT1, hT2, hT3⟩, ⟨P1, hP1⟩, ⟨C1, hC1⟩⟩ := hq6
          have f_m := (hne7 i (by omega) (by omega) (by omega)).trans f_m
          have f_g := (hne7 (i + 2) (by omega) (by omega) (by omega)).trans f_g
          have f_r0 := (hne7 (i + 3 + ii) (by omega) (by omega) (by omega)).trans f_r0
          have f_r1 : w4 (i + 3 + (ii + 1)) = aI G 2001 T1 := hT1
          have f_pl : w4 (i + 12) = aI G 2001 P1 := hP1
          have f_co : w4 (i + 13) = aI G 2001 C1 := hC1
          have hfr : ∀ j, j ≠ (i + 3 + (ii + 1)) → j ≠ (i + 12) → j ≠ (i + 13) → w4 j = w j := fun j a0 a1 a2 => (hne7 j (by omega) (by omega) (by omega)).trans (hfr j a0 a1 a2)
          refine lv_iinc (v := iI (((f : Nat) : Int) + 1)) (lv' := [(5, .int (iI (((f : Nat) : Int) + 1))), (0, .ref (ad i)), (1, .int (iI ((ii : Nat) : Int))), (2, .int (iI ((v : Nat) : Int))), (3, .int (iI ((lim : Nat) : Int))), (4, .int (iI ((M : Nat) : Int)))]) hx hb dX0_allow_40 hl (k := 5) rfl (by first | exact iI_add _ _ | exact (iI_add _ _).trans (congrArg iI (by omega))) (by decide) rfl (fun ls hl => ?_)
          refine lv_goto (tgt := 3) hx hb dX0_allow_43 (by decide) ?_
          exact ih3 (f + 1) T1 P1 C1 _ _ _ _ (by omega) (by omega) (allow_s (by omega) hd hT2 hT3) hfr f_m f_g f_r0 f_r1 f_pl f_co hP hS (by first | exact lv_sub hl [1, 2, 3, 4, 5, 0] rfl | exact lv_cast (lv_sub (l' := [(0, .ref (ad i)), (1, .int (iI ((ii : Nat) : Int))), (2, .int (iI ((v : Nat) : Int))), (3, .int (iI ((lim : Nat) : Int))), (4, .int (iI ((M : Nat) : Int))), (5, .int (iI (((f : Nat) : Int) + 1)))]) hl [1, 2, 3, 4, 5, 0] rfl) (lc_s (lc_s (lc_s (lc_s (lc_s (lc_i (show ((((f : Nat) : Int) + 1) : Int) = (((f + 1) : Nat) : Int) by omega) rfl)))))))
  exact lp1 (v - 0 + 1) 0 T P0 C0 _ _ _ _ (Nat.lt_succ_self _) (by omega) (fun _ _ h => absurd h (Nat.not_lt_zero _)) hfr f_m f_g f_r0 f_r1 f_pl f_co hP hS (by first | exact lv_sub hl [1, 2, 3, 4, 5, 0] rfl | exact lv_cast (lv_sub (l' := [(0, .ref (ad i)), (1, .int (iI ((ii : Nat) : Int))), (2, .int (iI ((v : Nat) : Int))), (3, .int (iI ((lim : Nat) : Int))), (4, .int (iI ((M : Nat) : Int))), (5, .int (iI 0))]) hl [1, 2, 3, 4, 5, 0] rfl) (lc_s (lc_s (lc_s (lc_s (lc_s (lc_i (show (0 : Int) = ((0 : Nat) : Int) by omega) rfl)))))))
set_option maxHeartbeats 4000000 in
set_option maxRecDepth 100000 in
theorem c_X0_writeRow {l : Launch} {G : nG} {N : Nat} {ad : Nat → Nat} {w : Nat → va_E} {sz : Nat} (i ic rl cnt sm : Nat) (val fal lim : Nat → Nat) (tb : Nat → Nat → Int) (R0 : Nat → Int) (hN : i + 13 < N) (hic : ic + 3 < N ∧ (ic + 3 < i ∨ i + 13 < ic)) (hrl : rl < N ∧ (rl < i ∨ i + 13 < rl)) (hc : cnt ≤ 8) (hval : ∀ k, val k ≤ 1000) (hval1 : ∀ k, k < cnt → 1 ≤ val k) (hfal : ∀ k, k < cnt → fal k < cnt) (hlim : ∀ k, lim k ≤ 2000) (hsm : sm ≤ 2000) (hrg : ∀ k, k ≤ cnt → ∀ s1, s1 ≤ sm → -1 ≤ tb k s1 ∧ tb k s1 ≤ s1) (f_m : w i = .inr (0, [.ref (ad (i + 1)), .ref (ad (i + 2)), .ref (ad (i + 12)), .ref (ad (i + 13))])) (f_g : w (i + 2) = aR G 5 9 (fun k => some (ad (i + 3 + k)))) (f_row : w (i + 1) = aI G 8 R0) (f_rows : ∀ k, k < 9 → w (i + 3 + k) = aI G 2001 (tb k)) (f_o : w ic = .inr (1, [.int (iI ((cnt : Nat) : Int)), .ref (ad (ic + 1)), .ref (ad (ic + 2)), .ref (ad (ic + 3))])) (f_v : w (ic + 1) = aI G 8 (fun q => (val q : Int))) (f_f : w (ic + 2) = aI G 8 (fun q => (fal q : Int))) (f_li : w rl = aI G 8 (fun q => (lim q : Int))) : Met l yX0_writeRow wsX0_writeRow ({ frames := 1, cells := 0, slots := 0, locals := 24 }) (va_Pc [.ref (ad i), .ref (ad ic), .ref (ad rl), .int (iI ((sm : Nat) : Int))] (nB G N ad w sz)) (nPv G N ad sz (fun u => (∀ j, j ≠ (i + 1) → u j = w j) ∧ (u (i + 1) = aI G 8 (wrR tb val fal lim cnt sm (fillF R0 0 8) cnt)))) 0 0 (nA N ad sz) := by
  refine n_ent (cc := cX0_writeRow) (maxL := 9) (ret := (none : Option Jvm.ClassFile.FieldType)) (by decide) rfl (Nat.le_of_ble_eq_true rfl) ?_
  intro p e s m below meth cd hx hb hr hml hlocks hts hown hnm hsz hP hK hI Q hQ ls hl
  have hown : s.vm.findClass RX0 = some m.cls := hown
  subst hsz
  have hJ := hI.J s.heap.size
  have hS : va_S (nA N ad s.heap.size) s.heap s.heap [] := va_S.rf
  have hfr : ∀ j, j ≠ (i + 1) → w j = w j := fun _ _ => rfl
  have hl : lv_has ls 9 [(0, .ref (ad i)), (1, .ref (ad ic)), (2, .ref (ad rl)), (3, .int (iI ((sm : Nat) : Int)))] := hl
  refine lv_aload_n hx hb dX0_writeRow_0 rfl (lv_at hl 0 rfl) ?_
  refine n_get hx hb hts u_X0 hown hK hP (by omega) f_m rfl 0 (by decide) (nT_m wf_X0_9) rfl dX0_writeRow_1 ?_
  refine n_iconst hx hb dX0_writeRow_4 ?_
  refine n_cV (va_runS (As := [.ref (ad (i + 1)), .int (iI 0)]) (rest := []) ⟨hx, hb, hml, hown, hts⟩ (c_J7_fill_53178 (i + 1) 8 R0 0 (by omega) (by decide) f_row) (va_cwS 2 hts (nT_S wl_X0_30 wt_J7_fill_53178 wn_J7 wc_J7_fill_53178) rfl rfl rfl (by decide +kernel) ⟨Nat.le_of_ble_eq_true rfl, Nat.le_of_ble_eq_true rfl⟩) (nB.pre hK hI hP) rfl rfl hl.1 rfl (lv_room (Nat.le_of_ble_eq_true rfl)) dX0_writeRow_5 ⟨Nat.zero_le _, Nat.zero_le _⟩) hS (fun w2 H locs hq4 hP hS => ?_)
  obtain ⟨hne5, hp1⟩ := hq4
  have f_m := (hne5 i (by omega)).trans f_m
  have f_g := (hne5 (i + 2) (by omega)).trans f_g
  have f_rows : ∀ k, k < 9 → w2 (i + 3 + k) = aI G 2001 (tb k) := fun k hk9 => (hne5 _ (by omega)).trans (f_rows _ hk9)
  have f_o := (hne5 ic (by omega)).trans f_o
  have f_v := (hne5 (ic + 1) (by omega)).trans f_v
  have f_f := (hne5 (ic + 2) (by omega)).trans f_f
  have f_li := (hne5 rl (by omega)).trans f_li
  have f_row : w2 (i + 1) = aI G 8 (fillF R0 0 8) := hp1
  have hfr : ∀ j, j ≠ (i + 1) → w2 j = w j := fun j a0 => (hne5 j (by omega)).trans (hfr j a0)
  refine lv_iload_n hx hb dX0_writeRow_8 rfl (lv_at hl 3 rfl) ?_
  refine lv_istore (lv' := [(4, .int (iI ((sm : Nat) : Int))), (0, .ref (ad i)), (1, .ref (ad ic)), (2, .ref (ad rl)), (3, .int (iI ((sm : Nat) : Int)))]) hx hb dX0_writeRow_9 hl (by decide) rfl (fun ls hl => ?_)
  refine lv_aload_n hx hb dX0_writeRow_11 rfl (lv_at hl 2 rfl) ?_
  refine n_get hx hb hts u_X1 hown hK hP (by omega) f_o rfl 0 (by decide) (nT_m wf_X0_36) rfl dX0_writeRow_12 ?_
  refine lv_istore (lv' := [(5, .int (iI ((cnt : Nat) : Int))), (4, .int (iI ((sm : Nat) : Int))), (0, .ref (ad i)), (1, .ref (ad ic)), (2, .ref (ad rl)), (3, .int (iI ((sm : Nat) : Int)))]) hx hb dX0_writeRow_15 hl (by decide) rfl (fun ls hl => ?_)
  have lp6 : ∀ (fu : Nat), ∀ (j : Nat), ∀ (w7 : Nat → va_E) (H : Heap) (locs : List Loc), ∀ (ls : Array Slot), cnt - j < fu → j ≤ cnt → (∀ j, j ≠ (i + 1) → w7 j = w j) → w7 i = .inr (0, [.ref (ad (i + 1)), .ref (ad (i + 2)), .ref (ad (i + 12)), .ref (ad (i + 13))]) → w7 (i + 2) = aR G 5 9 (fun k => some (ad (i + 3 + k))) → w7 (i + 1) = aI G 8 (wrR tb val fal lim cnt sm (fillF R0 0 8) j) → (∀ k, k < 9 → w7 (i + 3 + k) = aI G 2001 (tb k)) → w7 ic = .inr (1, [.int (iI ((cnt : Nat) : Int)), .ref (ad (ic + 1)), .ref (ad (ic + 2)), .ref (ad (ic + 3))]) → w7 (ic + 1) = aI G 8 (fun q => (val q : Int)) → w7 (ic + 2) = aI G 8 (fun q => (fal q : Int)) → w7 rl = aI G 8 (fun q => (lim q : Int)) → va_P G.1 vwCl (nL N ad w7) H → va_S (nA N ad s.heap.size) s.heap H locs → lv_has ls 9 [(0, .ref (ad i)), (1, .ref (ad ic)), (2, .ref (ad rl)), (3, .int (iI ((sm : Nat) : Int))), (4, .int (iI ((wrL tb val fal lim cnt sm j : Nat) : Int))), (5, .int (iI ((cnt - j : Nat) : Int)))] → W p l e ({ frames := 1, cells := 0, slots := 0, locals := 24 } : Room) s m ([.ref (ad i), .ref (ad ic), .ref (ad rl), .int (iI ((sm : Nat) : Int))] : List Value).toArray below meth cd H locs 0 0 Q (F0 m 17 ls []) := by
    intro fu
    induction fu with
    | zero =>
      intro j w7 H locs ls hfu hj hfr f_m f_g f_row f_rows f_o f_v f_f f_li hP hS hl
      exact absurd hfu (Nat.not_lt_zero _)
    | succ fu ih8 =>
      intro j w7 H locs ls hfu hj hfr f_m f_g f_row f_rows f_o f_v f_f f_li hP hS hl
      have hwl := wrL_le tb val fal lim cnt sm j
      refine lv_iload hx hb dX0_writeRow_17 (lv_at hl 5 rfl) ?_
      refine n_if_le (tgt := 118) hx hb dX0_writeRow_19 (by decide) (by omega) (fun hc19 => ?_) (fun hc19 => ?_)
      · skip
        refine n_vretP hQ hx hb hr hlocks hP hS dX0_writeRow_118 ?_
        refine ⟨hfr, f_row.trans (congrArg (fun x => aI G 8 (wrR tb val fal lim cnt sm (fillF R0 0 8) x)) (by omega))⟩
      · skip
        have hf8 := hfal j (by omega)
        have hv1 := hval1 (fal j) hf8
        have hdl : wrL tb val fal lim cnt sm j / val (fal j) ≤ wrL tb val fal lim cnt sm j := Nat.div_le_self _ _
        have hdz : (0 : Int) ≤ ((wrL tb val fal lim cnt sm j / val (fal j) : Nat) : Int) := Int.natCast_nonneg _
        refine lv_aload_n hx hb dX0_writeRow_22 rfl (lv_at hl 1 rfl) ?_
        refine n_get hx hb hts u_X1 hown hK hP (by omega) f_o rfl 2 (by decide) (nT_m wf_X0_42) rfl dX0_writeRow_23 ?_
        refine lv_aload_n hx hb dX0_writeRow_26 rfl (lv_at hl 1 rfl) ?_
        refine n_get hx hb hts u_X1 hown hK hP (by omega) f_o rfl 0 (by decide) (nT_m wf_X0_36) rfl dX0_writeRow_27 ?_
        refine lv_iload hx hb dX0_writeRow_30 (lv_at hl 5 rfl) ?_
        refine n_isub hx hb dX0_writeRow_32 ?_
        refine n_iald hx hb hK hP j (by omega) f_f (by omega) (by omega) (by decide) dX0_writeRow_33 ?_
        refine lv_istore (lv' := [(6, .int (iI (fal j : Int))), (0, .ref (ad i)), (1, .ref (ad ic)), (2, .ref (ad rl)), (3, .int (iI ((sm : Nat) : Int))), (4, .int (iI ((wrL tb val fal lim cnt sm j : Nat) : Int))), (5, .int (iI ((cnt - j : Nat) : Int)))]) hx hb dX0_writeRow_34 hl (by decide) rfl (fun ls hl => ?_)
        refine lv_aload_n hx hb dX0_writeRow_36 rfl (lv_at hl 2 rfl) ?_
        refine n_get hx hb hts u_X1 hown hK hP (by omega) f_o rfl 1 (by decide) (nT_m wf_X0_45) rfl dX0_writeRow_37 ?_
        refine lv_iload hx hb dX0_writeRow_40 (lv_at hl 0 rfl) ?_
        refine n_iald hx hb hK hP (fal j) (by omega) f_v (by omega) (by omega) (by decide) dX0_writeRow_42 ?_
        have ho9 := hval (fal j)
        refine lv_istore (lv' := [(7, .int (iI (val (fal j) : Int))), (6, .int (iI (fal j : Int))), (0, .ref (ad i)), (1, .ref (ad ic)), (2, .ref (ad rl)), (3, .int (iI ((sm : Nat) : Int))), (4, .int (iI ((wrL tb val fal lim cnt sm j : Nat) : Int))), (5, .int (iI ((cnt - j : Nat) : Int)))]) hx hb dX0_writeRow_43 hl (by decide) rfl (fun ls hl => ?_)
        refine lv_aload_n hx hb dX0_writeRow_45 rfl (lv_at hl 4 rfl) ?_
        refine lv_iload hx hb dX0_writeRow_46 (lv_at hl 1 rfl) ?_
        refine n_iald hx hb hK hP (fal j) (by omega) f_li (by omega) (by omega) (by decide) dX0_writeRow_48 ?_
        have ho10 := hlim (fal j)
        refine lv_iload hx hb dX0_writeRow_49 (lv_at hl 6 rfl) ?_
        refine lv_iload hx hb dX0_writeRow_51 (lv_at hl 0 rfl) ?_
        refine n_rdF (v := .int (iI (((wrL tb val fal lim cnt sm j) / (val (fal j)) : Nat) : Int))) (va_runSN (As := [.int (iI ((wrL tb val fal lim cnt sm j : Nat) : Int)), .int (iI (val (fal j) : Int))]) (rest := [.int (iI (lim (fal j) : Int))]) ⟨hx, hb, hml, hown, hts⟩ (c_X6_wholeTimes ((wrL tb val fal lim cnt sm j : Nat) : Int) (val (fal j) : Int) (by omega) (by omega)) ⟨va_cnB 2 hts (nT_N wc_X6_wholeTimes) rfl rfl rfl (hK.2 _ (List.mem_of_getElem? (i := 11) rfl)) (hts _ (nT_m wn_X6)) (by decide +kernel) ⟨Nat.le_of_ble_eq_true rfl, Nat.le_of_ble_eq_true rfl⟩, hts _ (nT_m wt_X6_wholeTimes), trivial⟩ preEq rfl rfl hl.1 rfl (lv_room (Nat.le_of_ble_eq_true rfl)) dX0_writeRow_53 ⟨Nat.zero_le _, Nat.zero_le _⟩) ?_
        refine n_mmin hx hb (hml.trans hl.1.symm) hown (hts _ (nT_m wl_X0_64)) (hts _ (nT_m wt_J9_min_7cf53)) (hts _ (nT_m wn_J9)) (hts _ (nT_m wc_J9_min_7cf53)) (Nat.le_of_ble_eq_true rfl) (Nat.le_of_ble_eq_true rfl) (Nat.zero_le _) (Nat.zero_le _) (by omega) (by omega) dX0_writeRow_56 ?_
        have lp11 : ∀ (n : Nat), ∀ (w12 : Nat → va_E) (H : Heap) (locs : List Loc), ∀ (ls : Array Slot), wrN tb val fal lim cnt (wrL tb val fal lim cnt sm j) j = n → n * val (fal j) ≤ wrL tb val fal lim cnt sm j → (∀ j, j ≠ (i + 1) → w12 j = w j) → w12 i = .inr (0, [.ref (ad (i + 1)), .ref (ad (i + 2)), .ref (ad (i + 12)), .ref (ad (i + 13))]) → w12 (i + 2) = aR G 5 9 (fun k => some (ad (i + 3 + k))) → w12 (i + 1) = aI G 8 (wrR tb val fal lim cnt sm (fillF R0 0 8) j) → (∀ k, k < 9 → w12 (i + 3 + k) = aI G 2001 (tb k)) → w12 ic = .inr (1, [.int (iI ((cnt : Nat) : Int)), .ref (ad (ic + 1)), .ref (ad (ic + 2)), .ref (ad (ic + 3))]) → w12 (ic + 1) = aI G 8 (fun q => (val q : Int)) → w12 (ic + 2) = aI G 8 (fun q => (fal q : Int)) → w12 rl = aI G 8 (fun q => (lim q : Int)) → va_P G.1 vwCl (nL N ad w12) H → va_S (nA N ad s.heap.size) s.heap H locs → lv_has ls 9 [(0, .ref (ad i)), (1, .ref (ad ic)), (2, .ref (ad rl)), (3, .int (iI ((sm : Nat) : Int))), (4, .int (iI ((wrL tb val fal lim cnt sm j : Nat) : Int))), (5, .int (iI ((cnt - j : Nat) : Int))), (6, .int (iI ((fal j : Nat) : Int))), (7, .int (iI ((val (fal j) : Nat) : Int))), (8, .int (iI ((n : Nat) : Int)))] → W p l e ({ frames := 1, cells := 0, slots := 0, locals := 24 } : Room) s m ([.ref (ad i), .ref (ad ic), .ref (ad rl), .int (iI ((sm : Nat) : Int))] : List Value).toArray below meth cd H locs 0 0 Q (F0 m 93 ls []) := by
          intro n w12 H locs ls hn9 hnv hfr f_m f_g f_row f_rows f_o f_v f_f f_li hP hS hl
          refine lv_aload_n hx hb dX0_writeRow_93 rfl (lv_at hl 0 rfl) ?_
          refine n_get hx hb hts u_X0 hown hK hP (by omega) f_m rfl 0 (by decide) (nT_m wf_X0_9) rfl dX0_writeRow_94 ?_
          refine lv_iload hx hb dX0_writeRow_97 (lv_at hl 6 rfl) ?_
          refine lv_iload hx hb dX0_writeRow_99 (lv_at hl 8 rfl) ?_
          refine n_iast hx hb hK hJ hP hS (fal j) (by omega) f_row (by omega) (by omega) (by decide) dX0_writeRow_101 (fun w14 H locs f_row hne15 hP hS => ?_)
          have f_m := (hne15 i (by omega)).trans f_m
          have f_g := (hne15 (i + 2) (by omega)).trans f_g
          have f_rows : ∀ k, k < 9 → w14 (i + 3 + k) = aI G 2001 (tb k) := fun k hk9 => (hne15 _ (by omega)).trans (f_rows _ hk9)
          have f_o := (hne15 ic (by omega)).trans f_o
          have f_v := (hne15 (ic + 1) (by omega)).trans f_v
          have f_f := (hne15 (ic + 2) (by omega)).trans f_f
          have f_li := (hne15 rl (by omega)).trans f_li
          have hfr : ∀ j, j ≠ (i + 1) → w14 j = w j := fun j a0 => (hne15 j (by omega)).trans (hfr j a0)
          refine lv_iload hx hb dX0_writeRow_102 (lv_at hl 4 rfl) ?_
          refine lv_iload hx hb dX0_writeRow_104 (lv_at hl 8 rfl) ?_
          refine lv_iload hx hb dX0_writeRow_106 (lv_at hl 7 rfl) ?_
          refine n_imul hx hb dX0_writeRow_108 ?_
          refine n_isub hx hb dX0_writeRow_109 ?_
          refine lv_istore (lv' := [(4, .int (iI (((wrL tb val fal lim cnt sm j : Nat) : Int) - (((n : Nat) : Int) * ((val (fal j) : Nat) : Int))))), (0, .ref (ad i)), (1, .ref (ad ic)), (2, .ref (ad rl)), (3, .int (iI ((sm : Nat) : Int))), (5, .int (iI ((cnt - j : Nat) : Int))), (6, .int (iI ((fal j : Nat) : Int))), (7, .int (iI ((val (fal j) : Nat) : Int))), (8, .int (iI ((n : Nat) : Int)))]) hx hb dX0_writeRow_110 hl (by decide) rfl (fun ls hl => ?_)
          refine lv_iinc (v := iI (((cnt - j : Nat) : Int) - 1)) (lv' := [(5, .int (iI (((cnt - j : Nat) : Int) - 1))), (4, .int (iI (((wrL tb val fal lim cnt sm j : Nat) : Int) - (((n : Nat) : Int) * ((val (fal j) : Nat) : Int))))), (0, .ref (ad i)), (1, .ref (ad ic)), (2, .ref (ad rl)), (3, .int (iI ((sm : Nat) : Int))), (6, .int (iI ((fal j : Nat) : Int))), (7, .int (iI ((val (fal j) : Nat) : Int))), (8, .int (iI ((n : Nat) : Int)))]) hx hb dX0_writeRow_112 hl (k := 5) rfl (by first | exact iI_add _ _ | exact (iI_add _ _).trans (congrArg iI (by omega))) (by decide) rfl (fun ls hl => ?_)
          refine lv_goto (tgt := 17) hx hb dX0_writeRow_115 (by decide) ?_
          exact ih8 (j + 1) _ _ _ _ (by omega) (by omega) hfr f_m f_g (by rw [← hn9] at f_row; exact f_row) f_rows f_o f_v f_f f_li hP hS (by first | exact lv_sub hl [2, 3, 4, 5, 1, 0] rfl | exact lv_cast (lv_sub (l' := [(0, .ref (ad i)), (1, .ref (ad ic)), (2, .ref (ad rl)), (3, .int (iI ((sm : Nat) : Int))), (4, .int (iI (((wrL tb val fal lim cnt sm j : Nat) : Int) - (((n : Nat) : Int) * ((val (fal j) : Nat) : Int))))), (5, .int (iI (((cnt - j : Nat) : Int) - 1)))]) hl [2, 3, 4, 5, 1, 0] rfl) (lc_s (lc_s (lc_s (lc_s (lc_i (show ((((wrL tb val fal lim cnt sm j : Nat) : Int) - (((n : Nat) : Int) * ((val (fal j) : Nat) : Int))) : Int) = ((wrL tb val fal lim cnt sm (j + 1) : Nat) : Int) by rw [← hn9] at hnv ⊢; exact (Int.natCast_sub hnv).symm) (lc_i (show ((((cnt - j : Nat) : Int) - 1) : Int) = ((cnt - (j + 1) : Nat) : Int) by omega) rfl)))))))
        refine lv_istore (lv' := [(8, .int (iI ((min (lim (fal j)) (wrL tb val fal lim cnt sm j / val (fal j)) : Nat) : Int))), (7, .int (iI (val (fal j) : Int))), (6, .int (iI (fal j : Int))), (0, .ref (ad i)), (1, .ref (ad ic)), (2, .ref (ad rl)), (3, .int (iI ((sm : Nat) : Int))), (4, .int (iI ((wrL tb val fal lim cnt sm j : Nat) : Int))), (5, .int (iI ((cnt - j : Nat) : Int)))]) hx hb dX0_writeRow_59 hl (by decide) (by rw [← min_cast]; rfl) (fun ls hl => ?_)
        have lp16 : ∀ (fu : Nat), ∀ (n : Nat), ∀ (w17 : Nat → va_E) (H : Heap) (locs : List Loc), ∀ (ls : Array Slot), n < fu → n ≤ wrL tb val fal lim cnt sm j / val (fal j) → wrN tb val fal lim cnt (wrL tb val fal lim cnt sm j) j = dn (wrP tb (cnt - j) (val (fal j)) (wrL tb val fal lim cnt sm j)) n → (∀ j, j ≠ (i + 1) → w17 j = w j) → w17 i = .inr (0, [.ref (ad (i + 1)), .ref (ad (i + 2)), .ref (ad (i + 12)), .ref (ad (i + 13))]) → w17 (i + 2) = aR G 5 9 (fun k => some (ad (i + 3 + k))) → w17 (i + 1) = aI G 8 (wrR tb val fal lim cnt sm (fillF R0 0 8) j) → (∀ k, k < 9 → w17 (i + 3 + k) = aI G 2001 (tb k)) → w17 ic = .inr (1, [.int (iI ((cnt : Nat) : Int)), .ref (ad (ic + 1)), .ref (ad (ic + 2)), .ref (ad (ic + 3))]) → w17 (ic + 1) = aI G 8 (fun q => (val q : Int)) → w17 (ic + 2) = aI G 8 (fun q => (fal q : Int)) → w17 rl = aI G 8 (fun q => (lim q : Int)) → va_P G.1 vwCl (nL N ad w17) H → va_S (nA N ad s.heap.size) s.heap H locs → lv_has ls 9 [(0, .ref (ad i)), (1, .ref (ad ic)), (2, .ref (ad rl)), (3, .int (iI ((sm : Nat) : Int))), (4, .int (iI ((wrL tb val fal lim cnt sm j : Nat) : Int))), (5, .int (iI ((cnt - j : Nat) : Int))), (6, .int (iI ((fal j : Nat) : Int))), (7, .int (iI ((val (fal j) : Nat) : Int))), (8, .int (iI ((n : Nat) : Int)))] → W p l e ({ frames := 1, cells := 0, slots := 0, locals := 24 } : Room) s m ([.ref (ad i), .ref (ad ic), .ref (ad rl), .int (iI ((sm : Nat) : Int))] : List Value).toArray below meth cd H locs 0 0 Q (F0 m 61 ls []) := by
          intro fu
          induction fu with
          | zero =>
            intro n w17 H locs ls hfu hn hdn hfr f_m f_g f_row f_rows f_o f_v f_f f_li hP hS hl
            exact absurd hfu (Nat.not_lt_zero _)
          | succ fu ih18 =>
            intro n w17 H locs ls hfu hn hdn hfr f_m f_g f_row f_rows f_o f_v f_f f_li hP hS hl
            have hnv : n * val (fal j) ≤ wrL tb val fal lim cnt sm j := Nat.le_trans (Nat.mul_le_mul_right _ hn) (Nat.div_mul_le_self _ _)
            refine lv_iload hx hb dX0_writeRow_61 (lv_at hl 8 rfl) ?_
            refine n_if_le (tgt := 93) hx hb dX0_writeRow_63 (by decide) (by omega) (fun hc63 => ?_) (fun hc63 => ?_)
            · skip
              exact lp11 n _ _ _ _ (hdn.trans (by rw [show n = 0 by omega]; rfl)) hnv hfr f_m f_g f_row f_rows f_o f_v f_f f_li hP hS (lv_sub hl [0, 1, 2, 3, 4, 5, 6, 7, 8] rfl)
            · skip
              refine lv_aload_n hx hb dX0_writeRow_66 rfl (lv_at hl 0 rfl) ?_
              refine lv_iload hx hb dX0_writeRow_67 (lv_at hl 5 rfl) ?_
              refine lv_iload hx hb dX0_writeRow_69 (lv_at hl 4 rfl) ?_
              refine lv_iload hx hb dX0_writeRow_71 (lv_at hl 4 rfl) ?_
              refine lv_iload hx hb dX0_writeRow_73 (lv_at hl 8 rfl) ?_
              refine lv_iload hx hb dX0_writeRow_75 (lv_at hl 7 rfl) ?_
              refine n_imul hx hb dX0_writeRow_77 ?_
              refine n_isub hx hb dX0_writeRow_78 ?_
              refine lv_iload hx hb dX0_writeRow_79 (lv_at hl 8 rfl) ?_
              have f_r0 := f_rows (cnt - j - 1) (by omega)
              have f_r1 := f_rows (cnt - j) (by omega)
              have hr0 := hrg (cnt - j - 1) (by omega) (wrL tb val fal lim cnt sm j - n * val (fal j)) (by omega)
              have hr1 := hrg (cnt - j) (by omega) (wrL tb val fal lim cnt sm j) (by omega)
              have hn2 : n ≤ 2000 := Nat.le_trans hn (Nat.le_trans (Nat.div_le_self _ _) (by omega))
              rw [show ((wrL tb val fal lim cnt sm j : Nat) : Int) - ((n : Nat) : Int) * ((val (fal j) : Nat) : Int) = ((wrL tb val fal lim cnt sm j - n * val (fal j) : Nat) : Int) from (Int.natCast_sub hnv).symm]
              refine n_rdF (va_runV (As := [.int (iI ((cnt - j : Nat) : Int)), .int (iI ((wrL tb val fal lim cnt sm j : Nat) : Int)), .int (iI ((wrL tb val fal lim cnt sm j - n * val (fal j) : Nat) : Int)), .int (iI ((n : Nat) : Int))]) (rest := []) ⟨hx, hb, hml, hown, hts⟩ (c_X0_leadsOn i (cnt - j) (wrL tb val fal lim cnt sm j) (wrL tb val fal lim cnt sm j - n * val (fal j)) n (tb (cnt - j - 1)) (tb (cnt - j)) (by omega) (by omega) (by omega) (by omega) (by omega) (by omega) f_m f_g f_r0 f_r1) (cwV 4 hts (nT_V wl_X0_69 wi_X0_leadsOn ws_X0_leadsOn wn_X0 wc_X0_leadsOn) rfl rfl rfl (by decide +kernel) ⟨Nat.le_of_ble_eq_true rfl, Nat.le_of_ble_eq_true rfl⟩) (nB.preV hK hI hP (by omega) f_m rfl rfl) rfl rfl hl.1 rfl (lv_room (Nat.le_of_ble_eq_true rfl)) dX0_writeRow_81 ⟨Nat.zero_le _, Nat.zero_le _⟩) ?_
              refine n_if_neB (tgt := 93) hx hb dX0_writeRow_84 (by decide) (fun hc84 => ?_) (fun hc84 => ?_)
              · skip
                have hn0 : dn (wrP tb (cnt - j) (val (fal j)) (wrL tb val fal lim cnt sm j)) n = n := by
                  obtain ⟨n1, rfl⟩ : ∃ n1, n = n1 + 1 := ⟨n - 1, by omega⟩
                  exact dn_y (decide_eq_true hc84)
                exact lp11 n _ _ _ _ (hdn.trans hn0) hnv hfr f_m f_g f_row f_rows f_o f_v f_f f_li hP hS (lv_sub hl [0, 1, 2, 3, 4, 5, 6, 7, 8] rfl)
              · skip
                refine lv_iinc (v := iI (((n : Nat) : Int) - 1)) (lv' := [(8, .int (iI (((n : Nat) : Int) - 1))), (0, .ref (ad i)), (1, .ref (ad ic)), (2, .ref (ad rl)), (3, .int (iI ((sm : Nat) : Int))), (4, .int (iI ((wrL tb val fal lim cnt sm j : Nat) : Int))), (5, .int (iI ((cnt - j : Nat) : Int))), (6, .int (iI ((fal j : Nat) : Int))), (7, .int (iI ((val (fal j) : Nat) : Int)))]) hx hb dX0_writeRow_87 hl (k := 8) rfl (by first | exact iI_add _ _ | exact (iI_add _ _).trans (congrArg iI (by omega))) (by decide) rfl (fun ls hl => ?_)
                refine lv_goto (tgt := 61) hx hb dX0_writeRow_90 (by decide) ?_
                obtain ⟨n1, rfl⟩ : ∃ n1, n = n1 + 1 := ⟨n - 1, by omega⟩
                exact ih18 n1 _ _ _ _ (by omega) (by omega) (hdn.trans (dn_n (decide_eq_false hc84))) hfr f_m f_g f_row f_rows f_o f_v f_f f_li hP hS (by first | exact lv_sub hl [1, 2, 3, 4, 5, 6, 7, 8, 0] rfl | exact lv_cast (lv_sub (l' := [(0, .ref (ad i)), (1, .ref (ad ic)), (2, .ref (ad rl)), (3, .int (iI ((sm : Nat) : Int))), (4, .int (iI ((wrL tb val fal lim cnt sm j : Nat) : Int))), (5, .int (iI ((cnt - j : Nat) : Int))), (6, .int (iI ((fal j : Nat) : Int))), (7, .int (iI ((val (fal j) : Nat) : Int))), (8, .int (iI ((((n1 + 1) : Nat) : Int) - 1)))]) hl [1, 2, 3, 4, 5, 6, 7, 8, 0] rfl) (lc_s (lc_s (lc_s (lc_s (lc_s (lc_s (lc_s (lc_s (lc_i (show (((((n1 + 1) : Nat) : Int) - 1) : Int) = ((n1 : Nat) : Int) by omega) rfl))))))))))
        exact lp16 ((min (lim (fal j)) (wrL tb val fal lim cnt sm j / val (fal j))) + 1) (min (lim (fal j)) (wrL tb val fal lim cnt sm j / val (fal j))) _ _ _ _ (Nat.lt_succ_self _) (Nat.min_le_right _ _) rfl hfr f_m f_g f_row f_rows f_o f_v f_f f_li hP hS (by first | exact lv_sub hl [3, 4, 5, 6, 7, 8, 2, 1, 0] rfl | exact lv_cast (lv_sub (l' := [(0, .ref (ad i)), (1, .ref (ad ic)), (2, .ref (ad rl)), (3, .int (iI ((sm : Nat) : Int))), (4, .int (iI ((wrL tb val fal lim cnt sm j : Nat) : Int))), (5, .int (iI ((cnt - j : Nat) : Int))), (6, .int (iI (fal j : Int))), (7, .int (iI (val (fal j) : Int))), (8, .int (iI ((min (lim (fal j)) (wrL tb val fal lim cnt sm j / val (fal j)) : Nat) : Int)))]) hl [3, 4, 5, 6, 7, 8, 2, 1, 0] rfl) (lc_s (lc_s (lc_s (lc_s (lc_s (lc_s (lc_i (show ((fal j : Int) : Int) = ((fal j : Nat) : Int) by omega) (lc_i (show ((val (fal j) : Int) : Int) = ((val (fal j) : Nat) : Int) by omega) (lc_i (show (((min (lim (fal j)) (wrL tb val fal lim cnt sm j / val (fal j)) : Nat) : Int) : Int) = (((min (lim (fal j)) (wrL tb val fal lim cnt sm j / val (fal j))) : Nat) : Int) by omega) rfl))))))))))
  exact lp6 (cnt - 0 + 1) 0 _ _ _ _ (Nat.lt_succ_self _) (by omega) hfr f_m f_g f_row f_rows f_o f_v f_f f_li hP hS (by first | exact lv_sub hl [2, 3, 4, 5, 1, 0] rfl | exact lv_cast (lv_sub (l' := [(0, .ref (ad i)), (1, .ref (ad ic)), (2, .ref (ad rl)), (3, .int (iI ((sm : Nat) : Int))), (4, .int (iI ((sm : Nat) : Int))), (5, .int (iI ((cnt : Nat) : Int)))]) hl [2, 3, 4, 5, 1, 0] rfl) (lc_s (lc_s (lc_s (lc_s (lc_i (show (((sm : Nat) : Int) : Int) = ((wrL tb val fal lim cnt sm 0 : Nat) : Int) by omega) (lc_i (show (((cnt : Nat) : Int) : Int) = ((cnt - 0 : Nat) : Int) by omega) rfl)))))))
end
section
set_option maxHeartbeats 4000000 in
set_option maxRecDepth 100000 in
theorem c_X0_make {l : Launch} {G : nG} {N : Nat} {ad : Nat → Nat} {w : Nat → va_E} {sz : Nat} (i ic rl cnt sm : Nat) (val fal lim : Nat → Nat) (tb : Nat → Nat → Int) (R0 P0 C0 : Nat → Int) (hN : i + 13 < N) (hic : ic + 3 < N ∧ (ic + 3 < i ∨ i + 13 < ic)) (hrl : rl < N ∧ (rl < i ∨ i + 13 < rl)) (hc : cnt ≤ 8) (hval : ∀ k, val k ≤ 1000) (hval1 : ∀ k, k < cnt → 1 ≤ val k) (hfal : ∀ k, k < cnt → fal k < cnt) (hlim : ∀ k, lim k ≤ 2000) (hsm : sm ≤ 2000) (f_m : w i = .inr (0, [.ref (ad (i + 1)), .ref (ad (i + 2)), .ref (ad (i + 12)), .ref (ad (i + 13))])) (f_g : w (i + 2) = aR G 5 9 (fun k => some (ad (i + 3 + k)))) (f_row : w (i + 1) = aI G 8 R0) (f_rows : ∀ k, k < 9 → w (i + 3 + k) = aI G 2001 (tb k)) (f_pl : w (i + 12) = aI G 2001 P0) (f_co : w (i + 13) = aI G 2001 C0) (f_o : w ic = .inr (1, [.int (iI ((cnt : Nat) : Int)), .ref (ad (ic + 1)), .ref (ad (ic + 2)), .ref (ad (ic + 3))])) (f_v : w (ic + 1) = aI G 8 (fun q => (val q : Int))) (f_f : w (ic + 2) = aI G 8 (fun q => (fal q : Int))) (f_li : w rl = aI G 8 (fun q => (lim q : Int))) : Met l yX0_make wsX0_make ({ frames := 2, cells := 0, slots := 0, locals := 56 }) (va_Pc [.ref (ad i), .ref (ad ic), .ref (ad rl), .int (iI ((sm : Nat) : Int))] (nB G N ad w sz)) (nPi G N ad sz (fun r u => (∀ j, ¬ (i + 1 ≤ j ∧ j ≤ i + 13) → u j = w j) ∧ (∃ (tc : Nat → Nat → Int) (R1 : Nat → Int), tbOK val fal lim cnt sm tc ∧ r = bI (¬ tc cnt sm = -1) ∧ u (i + 1) = aI G 8 R1 ∧ (¬ tc cnt sm = -1 → R1 = wrR tc val fal lim cnt sm (fillF R0 0 8) cnt) ∧ (∀ k, k < 9 → u (i + 3 + k) = aI G 2001 (tc k)) ∧ (∃ Pn, u (i + 12) = aI G 2001 Pn) ∧ ∃ Cn, u (i + 13) = aI G 2001 Cn))) 0 0 (nA N ad sz) := by
  refine n_ent (cc := cX0_make) (maxL := 7) (ret := (some .boolean)) (by decide) rfl (Nat.le_of_ble_eq_true rfl) ?_
  intro p e s m below meth cd hx hb hr hml hlocks hts hown hnm hsz hP hK hI Q hQ ls hl
  have hown : s.vm.findClass RX0 = some m.cls := hown
  subst hsz
  have hJ := hI.J s.heap.size
  have hS : va_S (nA N ad s.heap.size) s.heap s.heap [] := va_S.rf
  have hfr : ∀ j, ¬ (i + 1 ≤ j ∧ j ≤ i + 13) → w j = w j := fun _ _ => rfl
  have hl : lv_has ls 7 [(0, .ref (ad i)), (1, .ref (ad ic)), (2, .ref (ad rl)), (3, .int (iI ((sm : Nat) : Int)))] := hl
  refine lv_iload_n hx hb dX0_make_0 rfl (lv_at hl 3 rfl) ?_
  refine n_rdF (va_runSN (As := [.int (iI ((sm : Nat) : Int))]) (rest := []) ⟨hx, hb, hml, hown, hts⟩ (c_X6_isSum ((sm : Nat) : Int) (by omega)) ⟨va_cnB 1 hts (nT_N wc_X6_isSum) rfl rfl rfl (hK.2 _ (List.mem_of_getElem? (i := 10) rfl)) (hts _ (nT_m wn_X6)) (by decide +kernel) ⟨Nat.le_of_ble_eq_true rfl, Nat.le_of_ble_eq_true rfl⟩, hts _ (nT_m wt_X6_isSum), trivial⟩ preEq rfl rfl hl.1 rfl (lv_room (Nat.le_of_ble_eq_true rfl)) dX0_make_1 ⟨Nat.zero_le _, Nat.zero_le _⟩) ?_
  refine n_if_neB (tgt := 9) hx hb dX0_make_4 (by decide) (fun hc4 => ?_) (fun hc4 => ?_)
  · skip
    refine lv_aload_n hx hb dX0_make_9 rfl (lv_at hl 0 rfl) ?_
    refine n_get hx hb hts u_X0 hown hK hP (by omega) f_m rfl 1 (by decide) (nT_m wf_X0_17) rfl dX0_make_10 ?_
    refine n_iconst hx hb dX0_make_13 ?_
    refine n_aald hx hb hK hP (.array .int) 0 (by omega) f_g rfl rfl (by omega) (by omega) (by decide) rfl dX0_make_14 ?_
    have f_r0 := f_rows 0 (by omega)
    refine n_iconst hx hb dX0_make_15 ?_
    refine n_cV (va_runS (As := [.ref (ad (i + 3 + 0)), .int (iI (-1))]) (rest := []) ⟨hx, hb, hml, hown, hts⟩ (c_J7_fill_53178 (i + 3 + 0) 2001 (tb 0) (-1) (by omega) (by decide) f_r0) (va_cwS 2 hts (nT_S wl_X0_30 wt_J7_fill_53178 wn_J7 wc_J7_fill_53178) rfl rfl rfl (by decide +kernel) ⟨Nat.le_of_ble_eq_true rfl, Nat.le_of_ble_eq_true rfl⟩) (nB.pre hK hI hP) rfl rfl hl.1 rfl (lv_room (Nat.le_of_ble_eq_true rfl)) dX0_make_16 ⟨Nat.zero_le _, Nat.zero_le _⟩) hS (fun w1 H locs hq3 hP hS => ?_)
    obtain ⟨hne4, hpf⟩ := hq3
    have f_m := (hne4 i (by omega)).trans f_m
    have f_g := (hne4 (i + 2) (by omega)).trans f_g
    have f_row := (hne4 (i + 1) (by omega)).trans f_row
    have f_pl := (hne4 (i + 12) (by omega)).trans f_pl
    have f_co := (hne4 (i + 13) (by omega)).trans f_co
    have f_o := (hne4 ic (by omega)).trans f_o
    have f_v := (hne4 (ic + 1) (by omega)).trans f_v
    have f_f := (hne4 (ic + 2) (by omega)).trans f_f
    have f_li := (hne4 rl (by omega)).trans f_li
    have f_r0 : w1 (i + 3 + 0) = aI G 2001 (fillF (tb 0) (-1) 2001) := hpf
    have f_rows : ∀ k, k < 9 → w1 (i + 3 + k) = aI G 2001 ((va_up tb 0 (fillF (tb 0) (-1) 2001)) k) := (fam_up 0 (fun k hk hj => hne4 _ (by omega)) f_rows hpf)
    have hfr : ∀ j, ¬ (i + 1 ≤ j ∧ j ≤ i + 13) → w1 j = w j := fun j a0 => (hne4 j (by omega)).trans (hfr j a0)
    refine lv_aload_n hx hb dX0_make_19 rfl (lv_at hl 0 rfl) ?_
    refine n_get hx hb hts u_X0 hown hK hP (by omega) f_m rfl 1 (by decide) (nT_m wf_X0_17) rfl dX0_make_20 ?_
    refine n_iconst hx hb dX0_make_23 ?_
    refine n_aald hx hb hK hP (.array .int) 0 (by omega) f_g rfl rfl (by omega) (by omega) (by decide) rfl dX0_make_24 ?_
    refine n_iconst hx hb dX0_make_25 ?_
    refine n_iconst hx hb dX0_make_26 ?_
    refine n_iast hx hb hK hJ hP hS 0 (by omega) f_r0 (by omega) (by omega) (by decide) dX0_make_27 (fun w5 H locs f_r0 hne6 hP hS => ?_)
    have f_m := (hne6 i (by omega)).trans f_m
    have f_g := (hne6 (i + 2) (by omega)).trans f_g
    have f_row := (hne6 (i + 1) (by omega)).trans f_row
    have f_rows : ∀ k, k < 9 → w5 (i + 3 + k) = aI G 2001 ((va_up (va_up tb 0 (fillF (tb 0) (-1) 2001)) 0 (va_up (fillF (tb 0) (-1) 2001) 0 0)) k) := (fam_up 0 (fun k hk hj => hne6 _ (by omega)) f_rows f_r0)
    have f_pl := (hne6 (i + 12) (by omega)).trans f_pl
    have f_co := (hne6 (i + 13) (by omega)).trans f_co
    have f_o := (hne6 ic (by omega)).trans f_o
    have f_v := (hne6 (ic + 1) (by omega)).trans f_v
    have f_f := (hne6 (ic + 2) (by omega)).trans f_f
    have f_li := (hne6 rl (by omega)).trans f_li
    have hfr : ∀ j, ¬ (i + 1 ≤ j ∧ j ≤ i + 13) → w5 j = w j := fun j a0 => (hne6 j (by omega)).trans (hfr j a0)
    refine lv_aload_n hx hb dX0_make_28 rfl (lv_at hl 1 rfl) ?_
    refine n_get hx hb hts u_X1 hown hK hP (by omega) f_o rfl 0 (by decide) (nT_m wf_X0_36) rfl dX0_make_29 ?_
    refine lv_istore (lv' := [(4, .int (iI ((cnt : Nat) : Int))), (0, .ref (ad i)), (1, .ref (ad ic)), (2, .ref (ad rl)), (3, .int (iI ((sm : Nat) : Int)))]) hx hb dX0_make_32 hl (by decide) rfl (fun ls hl => ?_)
    refine n_iconst hx hb dX0_make_34 ?_
    refine lv_istore (lv' := [(5, .int (iI 0)), (4, .int (iI ((cnt : Nat) : Int))), (0, .ref (ad i)), (1, .ref (ad ic)), (2, .ref (ad rl)), (3, .int (iI ((sm : Nat) : Int)))]) hx hb dX0_make_35 hl (by decide) rfl (fun ls hl => ?_)
    have lp7 : ∀ (fu : Nat), ∀ (ii : Nat) (tc : Nat → Nat → Int) (Pn : Nat → Int) (Cn : Nat → Int), ∀ (w8 : Nat → va_E) (H : Heap) (locs : List Loc), ∀ (ls : Array Slot), cnt - ii < fu → ii ≤ cnt → tbIn val fal lim cnt sm ii tc → (∀ j, ¬ (i + 1 ≤ j ∧ j ≤ i + 13) → w8 j = w j) → w8 i = .inr (0, [.ref (ad (i + 1)), .ref (ad (i + 2)), .ref (ad (i + 12)), .ref (ad (i + 13))]) → w8 (i + 2) = aR G 5 9 (fun k => some (ad (i + 3 + k))) → w8 (i + 1) = aI G 8 R0 → (∀ k, k < 9 → w8 (i + 3 + k) = aI G 2001 (tc k)) → w8 (i + 12) = aI G 2001 Pn → w8 (i + 13) = aI G 2001 Cn → w8 ic = .inr (1, [.int (iI ((cnt : Nat) : Int)), .ref (ad (ic + 1)), .ref (ad (ic + 2)), .ref (ad (ic + 3))]) → w8 (ic + 1) = aI G 8 (fun q => (val q : Int)) → w8 (ic + 2) = aI G 8 (fun q => (fal q : Int)) → w8 rl = aI G 8 (fun q => (lim q : Int)) → va_P G.1 vwCl (nL N ad w8) H → va_S (nA N ad s.heap.size) s.heap H locs → lv_has ls 7 [(0, .ref (ad i)), (1, .ref (ad ic)), (2, .ref (ad rl)), (3, .int (iI ((sm : Nat) : Int))), (4, .int (iI ((cnt : Nat) : Int))), (5, .int (iI ((ii : Nat) : Int)))] → W p l e ({ frames := 2, cells := 0, slots := 0, locals := 56 } : Room) s m ([.ref (ad i), .ref (ad ic), .ref (ad rl), .int (iI ((sm : Nat) : Int))] : List Value).toArray below meth cd H locs 0 0 Q (F0 m 37 ls []) := by
      intro fu
      induction fu with
      | zero =>
        intro ii tc Pn Cn w8 H locs ls hfu hii htb hfr f_m f_g f_row f_rows f_pl f_co f_o f_v f_f f_li hP hS hl
        exact absurd hfu (Nat.not_lt_zero _)
      | succ fu ih9 =>
        intro ii tc Pn Cn w8 H locs ls hfu hii htb hfr f_m f_g f_row f_rows f_pl f_co f_o f_v f_f f_li hP hS hl
        refine lv_iload hx hb dX0_make_37 (lv_at hl 5 rfl) ?_
        refine lv_iload hx hb dX0_make_39 (lv_at hl 4 rfl) ?_
        refine n_icmp_ge (tgt := 82) hx hb dX0_make_41 (by decide) (by omega) (by omega) (fun hc41 => ?_) (fun hc41 => ?_)
        · skip
          refine lv_aload_n hx hb dX0_make_82 rfl (lv_at hl 0 rfl) ?_
          refine n_get hx hb hts u_X0 hown hK hP (by omega) f_m rfl 1 (by decide) (nT_m wf_X0_17) rfl dX0_make_83 ?_
          refine lv_iload hx hb dX0_make_86 (lv_at hl 4 rfl) ?_
          refine n_aald hx hb hK hP (.array .int) cnt (by omega) f_g rfl rfl (by omega) (by omega) (by decide) rfl dX0_make_88 ?_
          have f_rc := f_rows cnt (by omega)
          refine lv_iload_n hx hb dX0_make_89 rfl (lv_at hl 3 rfl) ?_
          refine n_iald hx hb hK hP sm (by omega) f_rc (by omega) (by omega) (by decide) dX0_make_90 ?_
          have ho10 := tbIn_rng hii hval1 hfal htb cnt (by omega) sm (Nat.le_refl _)
          refine n_iconst hx hb dX0_make_91 ?_
          refine n_icmp_ne (tgt := 97) hx hb dX0_make_92 (by decide) (by omega) (by omega) (fun hc92 => ?_) (fun hc92 => ?_)
          · skip
            refine lv_aload_n hx hb dX0_make_97 rfl (lv_at hl 0 rfl) ?_
            refine lv_aload_n hx hb dX0_make_98 rfl (lv_at hl 1 rfl) ?_
            refine lv_aload_n hx hb dX0_make_99 rfl (lv_at hl 2 rfl) ?_
            refine lv_iload_n hx hb dX0_make_100 rfl (lv_at hl 3 rfl) ?_
            refine n_cV (va_runV (As := [.ref (ad ic), .ref (ad rl), .int (iI ((sm : Nat) : Int))]) (rest := []) ⟨hx, hb, hml, hown, hts⟩ (c_X0_writeRow i ic rl cnt sm val fal lim tc R0 hN hic hrl hc hval hval1 hfal hlim hsm (fun k hk => tbIn_rng hii hval1 hfal htb k (by omega)) f_m f_g f_row f_rows f_o f_v f_f f_li) (cwV 3 hts (nT_V wl_X0_52 wi_X0_writeRow ws_X0_writeRow wn_X0 wc_X0_writeRow) rfl rfl rfl (by decide +kernel) ⟨Nat.le_of_ble_eq_true rfl, Nat.le_of_ble_eq_true rfl⟩) (nB.preV hK hI hP (by omega) f_m rfl rfl) rfl rfl hl.1 rfl (lv_room (Nat.le_of_ble_eq_true rfl)) dX0_make_101 ⟨Nat.zero_le _, Nat.zero_le _⟩) hS (fun w11 H locs hq13 hP hS => ?_)
            obtain ⟨hne14, hpr⟩ := hq13
            have f_m := (hne14 i (by omega)).trans f_m
            have f_g := (hne14 (i + 2) (by omega)).trans f_g
            have f_rows : ∀ k, k < 9 → w11 (i + 3 + k) = aI G 2001 (tc k) := fun k hk9 => (hne14 _ (by omega)).trans (f_rows _ hk9)
            have f_pl := (hne14 (i + 12) (by omega)).trans f_pl
            have f_co := (hne14 (i + 13) (by omega)).trans f_co
            have f_o := (hne14 ic (by omega)).trans f_o
            have f_v := (hne14 (ic + 1) (by omega)).trans f_v
            have f_f := (hne14 (ic + 2) (by omega)).trans f_f
            have f_li := (hne14 rl (by omega)).trans f_li
            have f_rc := (hne14 (i + 3 + cnt) (by omega)).trans f_rc
            have f_row : w11 (i + 1) = aI G 8 (wrR tc val fal lim cnt sm (fillF R0 0 8) cnt) := hpr
            have hfr : ∀ j, ¬ (i + 1 ≤ j ∧ j ≤ i + 13) → w11 j = w j := fun j a0 => (hne14 j (by omega)).trans (hfr j a0)
            refine n_iconst hx hb dX0_make_104 ?_
            refine n_zretP (t := True) hQ hx hb hr hlocks rfl hP hS dX0_make_105 ?_
            rw [show ii = cnt by omega] at htb
            exact ⟨hfr, tc, _, htb, (bI_t hc92).symm, f_row, fun _ => rfl, f_rows, ⟨_, f_pl⟩, ⟨_, f_co⟩⟩
          · skip
            refine n_iconst hx hb dX0_make_95 ?_
            refine n_zretP (t := False) hQ hx hb hr hlocks rfl hP hS dX0_make_96 ?_
            rw [show ii = cnt by omega] at htb
            exact ⟨hfr, tc, _, htb, (bI_f (fun h9 => h9 hc92)).symm, f_row, fun h9 => absurd hc92 h9, f_rows, ⟨_, f_pl⟩, ⟨_, f_co⟩⟩
        · skip
          have hf8 := hfal (cnt - 1 - ii) (by omega)
          have hv1 := hval1 (fal (cnt - 1 - ii)) hf8
          refine lv_aload_n hx hb dX0_make_44 rfl (lv_at hl 1 rfl) ?_
          refine n_get hx hb hts u_X1 hown hK hP (by omega) f_o rfl 2 (by decide) (nT_m wf_X0_42) rfl dX0_make_45 ?_
          refine lv_iload hx hb dX0_make_48 (lv_at hl 4 rfl) ?_
          refine n_iconst hx hb dX0_make_50 ?_
          refine n_isub hx hb dX0_make_51 ?_
          refine lv_iload hx hb dX0_make_52 (lv_at hl 5 rfl) ?_
          refine n_isub hx hb dX0_make_54 ?_
          refine n_iald hx hb hK hP (cnt - 1 - ii) (by omega) f_f (by omega) (by omega) (by decide) dX0_make_55 ?_
          refine lv_istore (lv' := [(6, .int (iI (fal (cnt - 1 - ii) : Int))), (0, .ref (ad i)), (1, .ref (ad ic)), (2, .ref (ad rl)), (3, .int (iI ((sm : Nat) : Int))), (4, .int (iI ((cnt : Nat) : Int))), (5, .int (iI ((ii : Nat) : Int)))]) hx hb dX0_make_56 hl (by decide) rfl (fun ls hl => ?_)
          refine lv_aload_n hx hb dX0_make_58 rfl (lv_at hl 1 rfl) ?_
          refine lv_iload hx hb dX0_make_59 (lv_at hl 6 rfl) ?_
          refine lv_aload_n hx hb dX0_make_61 rfl (lv_at hl 2 rfl) ?_
          refine n_get hx hb hts u_X1 hown hK hP (by omega) f_o rfl 1 (by decide) (nT_m wf_X0_45) rfl dX0_make_62 ?_
          refine lv_iload hx hb dX0_make_65 (lv_at hl 0 rfl) ?_
          refine n_iald hx hb hK hP (fal (cnt - 1 - ii)) (by omega) f_v (by omega) (by omega) (by decide) dX0_make_67 ?_
          have ho15 := hval (fal (cnt - 1 - ii))
          refine lv_aload_n hx hb dX0_make_68 rfl (lv_at hl 3 rfl) ?_
          refine lv_iload hx hb dX0_make_69 (lv_at hl 0 rfl) ?_
          refine n_iald hx hb hK hP (fal (cnt - 1 - ii)) (by omega) f_li (by omega) (by omega) (by decide) dX0_make_71 ?_
          have ho16 := hlim (fal (cnt - 1 - ii))
          refine lv_iload_n hx hb dX0_make_72 rfl (lv_at hl 4 rfl) ?_
          have f_q0 := f_rows ii (by omega)
          have f_q1 := f_rows (ii + 1) (by omega)
          refine n_cV (va_runV (As := [.int (iI ((ii : Nat) : Int)), .int (iI (val (fal (cnt - 1 - ii)) : Int)), .int (iI (lim (fal (cnt - 1 - ii)) : Int)), .int (iI ((sm : Nat) : Int))]) (rest := []) ⟨hx, hb, hml, hown, hts⟩ (c_X0_allow i ii (val (fal (cnt - 1 - ii))) (lim (fal (cnt - 1 - ii))) sm (tc ii) (tc (ii + 1)) Pn Cn hN (by omega) ⟨hv1, hval _⟩ hsm (hlim _) (tbIn_rng hii hval1 hfal htb ii (Nat.le_refl _)) f_m f_g f_q0 f_q1 f_pl f_co) (cwV 4 hts (nT_V wl_X0_48 wi_X0_allow ws_X0_allow wn_X0 wc_X0_allow) rfl rfl rfl (by decide +kernel) ⟨Nat.le_of_ble_eq_true rfl, Nat.le_of_ble_eq_true rfl⟩) (nB.preV hK hI hP (by omega) f_m rfl rfl) rfl rfl hl.1 rfl (lv_room (Nat.le_of_ble_eq_true rfl)) dX0_make_73 ⟨Nat.zero_le _, Nat.zero_le _⟩) hS (fun w17 H locs hq19 hP hS => ?_)
          obtain ⟨hne20, ⟨T1, hT1, hT2⟩, ⟨P1, hP1⟩, ⟨C1, hC1⟩⟩ := hq19
          have f_m := (hne20 i (by omega) (by omega) (by omega)).trans f_m
          have f_g := (hne20 (i + 2) (by omega) (by omega) (by omega)).trans f_g
          have f_row := (hne20 (i + 1) (by omega) (by omega) (by omega)).trans f_row
          have f_o := (hne20 ic (by omega) (by omega) (by omega)).trans f_o
          have f_v := (hne20 (ic + 1) (by omega) (by omega) (by omega)).trans f_v
          have f_f := (hne20 (ic + 2) (by omega) (by omega) (by omega)).trans f_f
          have f_li := (hne20 rl (by omega) (by omega) (by omega)).trans f_li
          have f_rows : ∀ k, k < 9 → w17 (i + 3 + k) = aI G 2001 (va_up tc (ii + 1) T1 k) := (fam_up (ii + 1) (fun k hk hj => hne20 _ (by omega) (by omega) (by omega)) f_rows hT1)
          have f_pl : w17 (i + 12) = aI G 2001 P1 := hP1
          have f_co : w17 (i + 13) = aI G 2001 C1 := hC1
          have hfr : ∀ j, ¬ (i + 1 ≤ j ∧ j ≤ i + 13) → w17 j = w j := fun j a0 => (hne20 j (by omega) (by omega) (by omega)).trans (hfr j a0)
          refine lv_iinc (v := iI (((ii : Nat) : Int) + 1)) (lv' := [(5, .int (iI (((ii : Nat) : Int) + 1))), (6, .int (iI (fal (cnt - 1 - ii) : Int))), (0, .ref (ad i)), (1, .ref (ad ic)), (2, .ref (ad rl)), (3, .int (iI ((sm : Nat) : Int))), (4, .int (iI ((cnt : Nat) : Int)))]) hx hb dX0_make_76 hl (k := 6) rfl (by first | exact iI_add _ _ | exact (iI_add _ _).trans (congrArg iI (by omega))) (by decide) rfl (fun ls hl => ?_)
          refine lv_goto (tgt := 37) hx hb dX0_make_79 (by decide) ?_
          exact ih9 (ii + 1) (va_up tc (ii + 1) T1) P1 C1 _ _ _ _ (by omega) (by omega) (tbIn_s htb hT2) hfr f_m f_g f_row f_rows f_pl f_co f_o f_v f_f f_li hP hS (by first | exact lv_sub hl [2, 3, 4, 5, 6, 0] rfl | exact lv_cast (lv_sub (l' := [(0, .ref (ad i)), (1, .ref (ad ic)), (2, .ref (ad rl)), (3, .int (iI ((sm : Nat) : Int))), (4, .int (iI ((cnt : Nat) : Int))), (5, .int (iI (((ii : Nat) : Int) + 1)))]) hl [2, 3, 4, 5, 6, 0] rfl) (lc_s (lc_s (lc_s (lc_s (lc_s (lc_i (show ((((ii : Nat) : Int) + 1) : Int) = (((ii + 1) : Nat) : Int) by omega) rfl)))))))
    exact lp7 (cnt - 0 + 1) 0 (va_up (va_up tb 0 (fillF (tb 0) (-1) 2001)) 0 (va_up (fillF (tb 0) (-1) 2001) 0 0)) P0 C0 _ _ _ _ (Nat.lt_succ_self _) (by omega) ⟨fun s1 hs => by rw [va_up_self]; exact fill_one (by omega), fun k hk => absurd hk (Nat.not_lt_zero _)⟩ hfr f_m f_g f_row f_rows f_pl f_co f_o f_v f_f f_li hP hS (by first | exact lv_sub hl [2, 3, 4, 5, 1, 0] rfl | exact lv_cast (lv_sub (l' := [(0, .ref (ad i)), (1, .ref (ad ic)), (2, .ref (ad rl)), (3, .int (iI ((sm : Nat) : Int))), (4, .int (iI ((cnt : Nat) : Int))), (5, .int (iI 0))]) hl [2, 3, 4, 5, 1, 0] rfl) (lc_s (lc_s (lc_s (lc_s (lc_s (lc_i (show (0 : Int) = ((0 : Nat) : Int) by omega) rfl)))))))
  · skip
    exact absurd hc4 (by omega)
set_option maxHeartbeats 4000000 in
set_option maxRecDepth 100000 in
theorem c_X0_make_no {l : Launch} {G : nG} {N : Nat} {ad : Nat → Nat} {w : Nat → va_E} {sz : Nat} (i ic rl : Nat) (z : Int) (hN : i + 13 < N) (hz : -2147483648 ≤ z ∧ z < 2147483648) (hbig : ¬ (0 ≤ z ∧ z ≤ 2000)) (f_m : w i = .inr (0, [.ref (ad (i + 1)), .ref (ad (i + 2)), .ref (ad (i + 12)), .ref (ad (i + 13))])) : Met l yX0_make wsX0_make ({ frames := 2, cells := 0, slots := 0, locals := 56 }) (va_Pc [.ref (ad i), .ref (ad ic), .ref (ad rl), .int (iI z)] (nB G N ad w sz)) (nRd (.int (iI (bI False)))) 0 0 (fun _ => False) := by
  refine n_ent (cc := cX0_make) (maxL := 7) (ret := (some .boolean)) (by decide) rfl (Nat.le_of_ble_eq_true rfl) ?_
  intro p e s m below meth cd hx hb hr hml hlocks hts hown hnm hsz hP hK hI Q hQ ls hl
  have hown : s.vm.findClass RX0 = some m.cls := hown
  have hl : lv_has ls 7 [(0, .ref (ad i)), (1, .ref (ad ic)), (2, .ref (ad rl)), (3, .int (iI z))] := hl
  refine lv_iload_n hx hb dX0_make_0 rfl (lv_at hl 3 rfl) ?_
  refine n_rdF (va_runSN (As := [.int (iI z)]) (rest := []) ⟨hx, hb, hml, hown, hts⟩ (c_X6_isSum z (by omega)) ⟨va_cnB 1 hts (nT_N wc_X6_isSum) rfl rfl rfl (hK.2 _ (List.mem_of_getElem? (i := 10) rfl)) (hts _ (nT_m wn_X6)) (by decide +kernel) ⟨Nat.le_of_ble_eq_true rfl, Nat.le_of_ble_eq_true rfl⟩, hts _ (nT_m wt_X6_isSum), trivial⟩ preEq rfl rfl hl.1 rfl (lv_room (Nat.le_of_ble_eq_true rfl)) dX0_make_1 ⟨Nat.zero_le _, Nat.zero_le _⟩) ?_
  refine n_if_neB (tgt := 9) hx hb dX0_make_4 (by decide) (fun hc4 => ?_) (fun hc4 => ?_)
  · skip
    exact absurd hc4 (by omega)
  · skip
    refine n_iconst hx hb dX0_make_7 ?_
    exact n_zretR hQ hx hb hr hlocks rfl dX0_make_8
end
