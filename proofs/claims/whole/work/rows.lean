section
-- ===== PART A: goes FIRST, ahead of the names: the tables' words, and 'selects' of the private methods out of them =====
/-- a private method of a class that the tables say can be made, by its rows of tables_1 -/
def lw_okq (q : MethodName × Nat) : Prop := (q.1.cls ≠ "java/lang/invoke/MethodHandle" ∧ q.1.cls ≠ "java/lang/invoke/VarHandle") ∧ Cond.instantiable q.1.cls q.2 ∈ tables_1 ∧ Cond.privateMethod q.1 ∈ tables_1 ∧ Cond.instanceMethod q.1 ∈ tables_1
theorem lw_p0 : lw_okq (⟨"NewCoins$Coinage", "isValue", "(I)Z"⟩, 4) := ⟨⟨by decide +kernel, by decide +kernel⟩, List.mem_of_getElem? (i := 28) (by decide +kernel), List.mem_of_getElem? (i := 236) (by decide +kernel), List.mem_of_getElem? (i := 237) (by decide +kernel)⟩
theorem lw_p1 : lw_okq (⟨"NewCoins$Coinage", "rank", "(I)V"⟩, 4) := ⟨⟨by decide +kernel, by decide +kernel⟩, List.mem_of_getElem? (i := 28) (by decide +kernel), List.mem_of_getElem? (i := 240) (by decide +kernel), List.mem_of_getElem? (i := 241) (by decide +kernel)⟩
theorem lw_p2 : lw_okq (⟨"NewCoins$Coinage", "improve", "(I)V"⟩, 4) := ⟨⟨by decide +kernel, by decide +kernel⟩, List.mem_of_getElem? (i := 28) (by decide +kernel), List.mem_of_getElem? (i := 244) (by decide +kernel), List.mem_of_getElem? (i := 245) (by decide +kernel)⟩
theorem lw_p3 : lw_okq (⟨"NewCoins", "startOfWays", "()J"⟩, 6) := ⟨⟨by decide +kernel, by decide +kernel⟩, List.mem_of_getElem? (i := 14) (by decide +kernel), List.mem_of_getElem? (i := 308) (by decide +kernel), List.mem_of_getElem? (i := 309) (by decide +kernel)⟩
theorem lw_p4 : lw_okq (⟨"NewCoins$ChangeMaker", "allow", "(IIII)V"⟩, 4) := ⟨⟨by decide +kernel, by decide +kernel⟩, List.mem_of_getElem? (i := 178) (by decide +kernel), List.mem_of_getElem? (i := 411) (by decide +kernel), List.mem_of_getElem? (i := 412) (by decide +kernel)⟩
theorem lw_p5 : lw_okq (⟨"NewCoins$ChangeMaker", "slide", "([I[IIIII)V"⟩, 4) := ⟨⟨by decide +kernel, by decide +kernel⟩, List.mem_of_getElem? (i := 178) (by decide +kernel), List.mem_of_getElem? (i := 415) (by decide +kernel), List.mem_of_getElem? (i := 416) (by decide +kernel)⟩
theorem lw_p6 : lw_okq (⟨"NewCoins$ChangeMaker", "writeRow", "(LNewCoins$Coinage;[II)V"⟩, 4) := ⟨⟨by decide +kernel, by decide +kernel⟩, List.mem_of_getElem? (i := 178) (by decide +kernel), List.mem_of_getElem? (i := 419) (by decide +kernel), List.mem_of_getElem? (i := 420) (by decide +kernel)⟩
theorem lw_p7 : lw_okq (⟨"NewCoins$ChangeMaker", "leadsOn", "(IIII)Z"⟩, 4) := ⟨⟨by decide +kernel, by decide +kernel⟩, List.mem_of_getElem? (i := 178) (by decide +kernel), List.mem_of_getElem? (i := 427) (by decide +kernel), List.mem_of_getElem? (i := 428) (by decide +kernel)⟩
theorem lw_p8 : lw_okq (⟨"NewCoins", "mostLacking", "(LNewCoins$Expected;I)I"⟩, 6) := ⟨⟨by decide +kernel, by decide +kernel⟩, List.mem_of_getElem? (i := 14) (by decide +kernel), List.mem_of_getElem? (i := 476) (by decide +kernel), List.mem_of_getElem? (i := 477) (by decide +kernel)⟩
theorem lw_p9 : lw_okq (⟨"NewCoins$Land", "goodDetail", "(I)I"⟩, 9) := ⟨⟨by decide +kernel, by decide +kernel⟩, List.mem_of_getElem? (i := 22) (by decide +kernel), List.mem_of_getElem? (i := 491) (by decide +kernel), List.mem_of_getElem? (i := 492) (by decide +kernel)⟩
theorem lw_p10 : lw_okq (⟨"NewCoinsModel", "isGood", "(I)Z"⟩, 27) := ⟨⟨by decide +kernel, by decide +kernel⟩, List.mem_of_getElem? (i := 536) (by decide +kernel), List.mem_of_getElem? (i := 643) (by decide +kernel), List.mem_of_getElem? (i := 644) (by decide +kernel)⟩
theorem lw_p11 : lw_okq (⟨"NewCoinsModel", "priceOf", "(II)I"⟩, 27) := ⟨⟨by decide +kernel, by decide +kernel⟩, List.mem_of_getElem? (i := 536) (by decide +kernel), List.mem_of_getElem? (i := 655) (by decide +kernel), List.mem_of_getElem? (i := 656) (by decide +kernel)⟩
theorem lw_p12 : lw_okq (⟨"NewCoinsModel", "gainOf", "(II)J"⟩, 27) := ⟨⟨by decide +kernel, by decide +kernel⟩, List.mem_of_getElem? (i := 536) (by decide +kernel), List.mem_of_getElem? (i := 663) (by decide +kernel), List.mem_of_getElem? (i := 664) (by decide +kernel)⟩
theorem lw_p13 : lw_okq (⟨"NewCoinsModel", "isCoin", "(II)Z"⟩, 27) := ⟨⟨by decide +kernel, by decide +kernel⟩, List.mem_of_getElem? (i := 536) (by decide +kernel), List.mem_of_getElem? (i := 680) (by decide +kernel), List.mem_of_getElem? (i := 681) (by decide +kernel)⟩
theorem lw_p14 : lw_okq (⟨"NewCoinsModel", "noBounds", "()V"⟩, 27) := ⟨⟨by decide +kernel, by decide +kernel⟩, List.mem_of_getElem? (i := 536) (by decide +kernel), List.mem_of_getElem? (i := 684) (by decide +kernel), List.mem_of_getElem? (i := 685) (by decide +kernel)⟩
theorem lw_p15 : lw_okq (⟨"NewCoinsModel", "find", "(II)I"⟩, 27) := ⟨⟨by decide +kernel, by decide +kernel⟩, List.mem_of_getElem? (i := 536) (by decide +kernel), List.mem_of_getElem? (i := 688) (by decide +kernel), List.mem_of_getElem? (i := 689) (by decide +kernel)⟩
def lw_privs_1 : List (MethodName × Nat) := [(⟨"NewCoins$Coinage", "isValue", "(I)Z"⟩, 4), (⟨"NewCoins$Coinage", "rank", "(I)V"⟩, 4), (⟨"NewCoins$Coinage", "improve", "(I)V"⟩, 4), (⟨"NewCoins", "startOfWays", "()J"⟩, 6), (⟨"NewCoins$ChangeMaker", "allow", "(IIII)V"⟩, 4), (⟨"NewCoins$ChangeMaker", "slide", "([I[IIIII)V"⟩, 4), (⟨"NewCoins$ChangeMaker", "writeRow", "(LNewCoins$Coinage;[II)V"⟩, 4), (⟨"NewCoins$ChangeMaker", "leadsOn", "(IIII)Z"⟩, 4), (⟨"NewCoins", "mostLacking", "(LNewCoins$Expected;I)I"⟩, 6), (⟨"NewCoins$Land", "goodDetail", "(I)I"⟩, 9), (⟨"NewCoinsModel", "isGood", "(I)Z"⟩, 27), (⟨"NewCoinsModel", "priceOf", "(II)I"⟩, 27), (⟨"NewCoinsModel", "gainOf", "(II)J"⟩, 27), (⟨"NewCoinsModel", "isCoin", "(II)Z"⟩, 27), (⟨"NewCoinsModel", "noBounds", "()V"⟩, 27), (⟨"NewCoinsModel", "find", "(II)I"⟩, 27)]
theorem lw_r1 : ∀ q ∈ lw_privs_1, lw_okq q := List.forall_mem_cons.mpr ⟨lw_p0, List.forall_mem_cons.mpr ⟨lw_p1, List.forall_mem_cons.mpr ⟨lw_p2, List.forall_mem_cons.mpr ⟨lw_p3, List.forall_mem_cons.mpr ⟨lw_p4, List.forall_mem_cons.mpr ⟨lw_p5, List.forall_mem_cons.mpr ⟨lw_p6, List.forall_mem_cons.mpr ⟨lw_p7, List.forall_mem_cons.mpr ⟨lw_p8, List.forall_mem_cons.mpr ⟨lw_p9, List.forall_mem_cons.mpr ⟨lw_p10, List.forall_mem_cons.mpr ⟨lw_p11, List.forall_mem_cons.mpr ⟨lw_p12, List.forall_mem_cons.mpr ⟨lw_p13, List.forall_mem_cons.mpr ⟨lw_p14, List.forall_mem_cons.mpr ⟨lw_p15, fun _ h => absurd h List.not_mem_nil⟩⟩⟩⟩⟩⟩⟩⟩⟩⟩⟩⟩⟩⟩⟩⟩
theorem lw_p16 : lw_okq (⟨"NewCoinsModel", "sortCoins", "(I)V"⟩, 27) := ⟨⟨by decide +kernel, by decide +kernel⟩, List.mem_of_getElem? (i := 536) (by decide +kernel), List.mem_of_getElem? (i := 692) (by decide +kernel), List.mem_of_getElem? (i := 693) (by decide +kernel)⟩
theorem lw_p17 : lw_okq (⟨"NewCoinsModel", "greedyOf", "(II)I"⟩, 27) := ⟨⟨by decide +kernel, by decide +kernel⟩, List.mem_of_getElem? (i := 536) (by decide +kernel), List.mem_of_getElem? (i := 701) (by decide +kernel), List.mem_of_getElem? (i := 702) (by decide +kernel)⟩
theorem lw_p18 : lw_okq (⟨"NewCoinsModel", "isTill", "(I)Z"⟩, 27) := ⟨⟨by decide +kernel, by decide +kernel⟩, List.mem_of_getElem? (i := 536) (by decide +kernel), List.mem_of_getElem? (i := 720) (by decide +kernel), List.mem_of_getElem? (i := 721) (by decide +kernel)⟩
theorem lw_p19 : lw_okq (⟨"NewCoinsModel", "isSale", "(IIIII)Z"⟩, 27) := ⟨⟨by decide +kernel, by decide +kernel⟩, List.mem_of_getElem? (i := 536) (by decide +kernel), List.mem_of_getElem? (i := 728) (by decide +kernel), List.mem_of_getElem? (i := 729) (by decide +kernel)⟩
theorem lw_p20 : lw_okq (⟨"NewCoinsModel", "over", "(IIII)I"⟩, 27) := ⟨⟨by decide +kernel, by decide +kernel⟩, List.mem_of_getElem? (i := 536) (by decide +kernel), List.mem_of_getElem? (i := 732) (by decide +kernel), List.mem_of_getElem? (i := 733) (by decide +kernel)⟩
theorem lw_p21 : lw_okq (⟨"NewCoinsModel", "parts", "(II)J"⟩, 27) := ⟨⟨by decide +kernel, by decide +kernel⟩, List.mem_of_getElem? (i := 536) (by decide +kernel), List.mem_of_getElem? (i := 744) (by decide +kernel), List.mem_of_getElem? (i := 745) (by decide +kernel)⟩
theorem lw_p22 : lw_okq (⟨"NewCoinsModel", "findWanted", "(I)Z"⟩, 27) := ⟨⟨by decide +kernel, by decide +kernel⟩, List.mem_of_getElem? (i := 536) (by decide +kernel), List.mem_of_getElem? (i := 772) (by decide +kernel), List.mem_of_getElem? (i := 773) (by decide +kernel)⟩
theorem lw_p23 : lw_okq (⟨"NewCoinsModel", "copy", "(II)V"⟩, 27) := ⟨⟨by decide +kernel, by decide +kernel⟩, List.mem_of_getElem? (i := 536) (by decide +kernel), List.mem_of_getElem? (i := 784) (by decide +kernel), List.mem_of_getElem? (i := 785) (by decide +kernel)⟩
def lw_privs_2 : List (MethodName × Nat) := [(⟨"NewCoinsModel", "sortCoins", "(I)V"⟩, 27), (⟨"NewCoinsModel", "greedyOf", "(II)I"⟩, 27), (⟨"NewCoinsModel", "isTill", "(I)Z"⟩, 27), (⟨"NewCoinsModel", "isSale", "(IIIII)Z"⟩, 27), (⟨"NewCoinsModel", "over", "(IIII)I"⟩, 27), (⟨"NewCoinsModel", "parts", "(II)J"⟩, 27), (⟨"NewCoinsModel", "findWanted", "(I)Z"⟩, 27), (⟨"NewCoinsModel", "copy", "(II)V"⟩, 27)]
theorem lw_r2 : ∀ q ∈ lw_privs_2, lw_okq q := List.forall_mem_cons.mpr ⟨lw_p16, List.forall_mem_cons.mpr ⟨lw_p17, List.forall_mem_cons.mpr ⟨lw_p18, List.forall_mem_cons.mpr ⟨lw_p19, List.forall_mem_cons.mpr ⟨lw_p20, List.forall_mem_cons.mpr ⟨lw_p21, List.forall_mem_cons.mpr ⟨lw_p22, List.forall_mem_cons.mpr ⟨lw_p23, fun _ h => absurd h List.not_mem_nil⟩⟩⟩⟩⟩⟩⟩⟩
def lw_privs : List (MethodName × Nat) := lw_privs_1 ++ (lw_privs_2)
def lw_tbl : List Cond := k2_sels lw_privs ++ tables_1
theorem lw_privs_ok : ∀ q ∈ lw_privs, lw_okq q := by
  show ∀ q ∈ lw_privs_1 ++ (lw_privs_2), lw_okq q
  exact List.forall_mem_append.mpr ⟨lw_r1, lw_r2⟩
end
section
def RX0 : String := "NewCoins$ChangeMaker"
def TX0 : u_T := fun k => match k with
  | 0 => ("NewCoins$ChangeMaker", "row", "[I", true)
  | 1 => ("NewCoins$ChangeMaker", "least", "[[I", true)
  | 2 => ("NewCoins$ChangeMaker", "places", "[I", true)
  | _ => ("NewCoins$ChangeMaker", "costs", "[I", true)
def tyX0 : Nat → FieldType := fun k => match k with
  | 0 => .array .int
  | 1 => .array (.array .int)
  | 2 => .array .int
  | _ => .array .int
abbrev wsX00 : List Cond := u_ws RX0 TX0 4
theorem nmX0 : ∀ a, a < 4 → ∀ b, b < 4 → a ≠ b → (TX0 a).2.1 ≠ (TX0 b).2.1 := by decide +kernel
theorem tyX0_ok : ∀ k, k < 4 → parseFieldDescriptor (TX0 k).2.2.1 = some (tyX0 k) := by decide +kernel
abbrev cX0_init : ByteArray := prog_2_method_1_code
def yX0_init : MethodName := ⟨RX0, "<init>", "()V"⟩
abbrev cX0_make : ByteArray := prog_2_method_2_code
def yX0_make : MethodName := ⟨RX0, "make", "(LNewCoins$Coinage;[II)Z"⟩
abbrev cX0_allow : ByteArray := prog_2_method_3_code
def yX0_allow : MethodName := ⟨RX0, "allow", "(IIII)V"⟩
abbrev cX0_slide : ByteArray := prog_2_method_4_code
def yX0_slide : MethodName := ⟨RX0, "slide", "([I[IIIII)V"⟩
abbrev cX0_writeRow : ByteArray := prog_2_method_5_code
def yX0_writeRow : MethodName := ⟨RX0, "writeRow", "(LNewCoins$Coinage;[II)V"⟩
abbrev cX0_leadsOn : ByteArray := prog_2_method_6_code
def yX0_leadsOn : MethodName := ⟨RX0, "leadsOn", "(IIII)Z"⟩
def RX1 : String := "NewCoins$Coinage"
def TX1 : u_T := fun k => match k with
  | 0 => ("NewCoins$Coinage", "count", "I", false)
  | 1 => ("NewCoins$Coinage", "values", "[I", true)
  | 2 => ("NewCoins$Coinage", "falling", "[I", true)
  | _ => ("NewCoins$Coinage", "least", "[I", true)
def tyX1 : Nat → FieldType := fun k => match k with
  | 0 => .int
  | 1 => .array .int
  | 2 => .array .int
  | _ => .array .int
abbrev wsX10 : List Cond := u_ws RX1 TX1 4
theorem nmX1 : ∀ a, a < 4 → ∀ b, b < 4 → a ≠ b → (TX1 a).2.1 ≠ (TX1 b).2.1 := by decide +kernel
theorem tyX1_ok : ∀ k, k < 4 → parseFieldDescriptor (TX1 k).2.2.1 = some (tyX1 k) := by decide +kernel
abbrev cX1_init : ByteArray := prog_3_method_1_code
def yX1_init : MethodName := ⟨RX1, "<init>", "()V"⟩
abbrev cX1_copyFrom : ByteArray := prog_3_method_2_code
def yX1_copyFrom : MethodName := ⟨RX1, "copyFrom", "(LNewCoins$Coinage;)V"⟩
abbrev cX1_isCoin : ByteArray := prog_3_method_3_code
def yX1_isCoin : MethodName := ⟨RX1, "isCoin", "(I)Z"⟩
abbrev cX1_add : ByteArray := prog_3_method_4_code
def yX1_add : MethodName := ⟨RX1, "add", "(I)I"⟩
abbrev cX1_isValue : ByteArray := prog_3_method_5_code
def yX1_isValue : MethodName := ⟨RX1, "isValue", "(I)Z"⟩
abbrev cX1_rank : ByteArray := prog_3_method_6_code
def yX1_rank : MethodName := ⟨RX1, "rank", "(I)V"⟩
abbrev cX1_improve : ByteArray := prog_3_method_7_code
def yX1_improve : MethodName := ⟨RX1, "improve", "(I)V"⟩
abbrev cX1_hasFewest : ByteArray := prog_3_method_8_code
def yX1_hasFewest : MethodName := ⟨RX1, "hasFewest", "(I)Z"⟩
abbrev cX1_writeFewest : ByteArray := prog_3_method_9_code
def yX1_writeFewest : MethodName := ⟨RX1, "writeFewest", "(I[I)V"⟩
abbrev cX1_countGreedily : ByteArray := prog_3_method_10_code
def yX1_countGreedily : MethodName := ⟨RX1, "countGreedily", "(I)I"⟩
abbrev cX1_leastOdd : ByteArray := prog_3_method_11_code
def yX1_leastOdd : MethodName := ⟨RX1, "leastOdd", "()I"⟩
abbrev cX1_detail : ByteArray := prog_3_method_12_code
def yX1_detail : MethodName := ⟨RX1, "detail", "(I)I"⟩
def RX2 : String := "NewCoins$Expected"
def TX2 : u_T := fun k => match k with
  | 0 => ("NewCoins$Expected", "count", "I", false)
  | 1 => ("NewCoins$Expected", "prices", "[I", true)
  | 2 => ("NewCoins$Expected", "systems", "[I", true)
  | 3 => ("NewCoins$Expected", "coins", "[I", true)
  | _ => ("NewCoins$Expected", "numbers", "[I", true)
def tyX2 : Nat → FieldType := fun k => match k with
  | 0 => .int
  | 1 => .array .int
  | 2 => .array .int
  | 3 => .array .int
  | _ => .array .int
abbrev wsX20 : List Cond := u_ws RX2 TX2 5
theorem nmX2 : ∀ a, a < 5 → ∀ b, b < 5 → a ≠ b → (TX2 a).2.1 ≠ (TX2 b).2.1 := by decide +kernel
theorem tyX2_ok : ∀ k, k < 5 → parseFieldDescriptor (TX2 k).2.2.1 = some (tyX2 k) := by decide +kernel
abbrev cX2_init : ByteArray := prog_4_method_1_code
def yX2_init : MethodName := ⟨RX2, "<init>", "()V"⟩
abbrev cX2_copyFrom : ByteArray := prog_4_method_2_code
def yX2_copyFrom : MethodName := ⟨RX2, "copyFrom", "(LNewCoins$Expected;)V"⟩
abbrev cX2_add : ByteArray := prog_4_method_3_code
def yX2_add : MethodName := ⟨RX2, "add", "(IIII)I"⟩
def RX3 : String := "NewCoins$Goods"
def TX3 : u_T := fun k => match k with
  | 0 => ("NewCoins$Goods", "count", "I", false)
  | 1 => ("NewCoins$Goods", "prices", "[I", true)
  | _ => ("NewCoins$Goods", "times", "[I", true)
def tyX3 : Nat → FieldType := fun k => match k with
  | 0 => .int
  | 1 => .array .int
  | _ => .array .int
abbrev wsX30 : List Cond := u_ws RX3 TX3 3
theorem nmX3 : ∀ a, a < 3 → ∀ b, b < 3 → a ≠ b → (TX3 a).2.1 ≠ (TX3 b).2.1 := by decide +kernel
theorem tyX3_ok : ∀ k, k < 3 → parseFieldDescriptor (TX3 k).2.2.1 = some (tyX3 k) := by decide +kernel
abbrev cX3_init : ByteArray := prog_5_method_1_code
def yX3_init : MethodName := ⟨RX3, "<init>", "()V"⟩
abbrev cX3_copyFrom : ByteArray := prog_5_method_2_code
def yX3_copyFrom : MethodName := ⟨RX3, "copyFrom", "(LNewCoins$Goods;)V"⟩
abbrev cX3_isGood : ByteArray := prog_5_method_3_code
def yX3_isGood : MethodName := ⟨RX3, "isGood", "(I)Z"⟩
abbrev cX3_add : ByteArray := prog_5_method_4_code
def yX3_add : MethodName := ⟨RX3, "add", "(II)I"⟩
def RX4 : String := "NewCoins$Land"
def TX4 : u_T := fun k => match k with
  | 0 => ("NewCoins$Land", "old", "LNewCoins$Coinage;", true)
  | 1 => ("NewCoins$Land", "fresh", "LNewCoins$Coinage;", true)
  | 2 => ("NewCoins$Land", "goods", "LNewCoins$Goods;", true)
  | 3 => ("NewCoins$Land", "tills", "[LNewCoins$Till;", true)
  | 4 => ("NewCoins$Land", "drawnIn", "[I", true)
  | 5 => ("NewCoins$Land", "tillCount", "I", false)
  | 6 => ("NewCoins$Land", "a", "I", false)
  | 7 => ("NewCoins$Land", "b", "I", false)
  | _ => ("NewCoins$Land", "step", "I", false)
def tyX4 : Nat → FieldType := fun k => match k with
  | 0 => .object "NewCoins$Coinage"
  | 1 => .object "NewCoins$Coinage"
  | 2 => .object "NewCoins$Goods"
  | 3 => .array (.object "NewCoins$Till")
  | 4 => .array .int
  | 5 => .int
  | 6 => .int
  | 7 => .int
  | _ => .int
abbrev wsX40 : List Cond := u_ws RX4 TX4 9
theorem nmX4 : ∀ a, a < 9 → ∀ b, b < 9 → a ≠ b → (TX4 a).2.1 ≠ (TX4 b).2.1 := by decide +kernel
theorem tyX4_ok : ∀ k, k < 9 → parseFieldDescriptor (TX4 k).2.2.1 = some (tyX4 k) := by decide +kernel
abbrev cX4_init : ByteArray := prog_6_method_1_code
def yX4_init : MethodName := ⟨RX4, "<init>", "()V"⟩
abbrev cX4_copyFrom : ByteArray := prog_6_method_2_code
def yX4_copyFrom : MethodName := ⟨RX4, "copyFrom", "(LNewCoins$Land;)V"⟩
abbrev cX4_coinageOf : ByteArray := prog_6_method_3_code
def yX4_coinageOf : MethodName := ⟨RX4, "coinageOf", "(I)LNewCoins$Coinage;"⟩
abbrev cX4_tillAt : ByteArray := prog_6_method_4_code
def yX4_tillAt : MethodName := ⟨RX4, "tillAt", "(I)LNewCoins$Till;"⟩
abbrev cX4_isCoin : ByteArray := prog_6_method_5_code
def yX4_isCoin : MethodName := ⟨RX4, "isCoin", "(II)Z"⟩
abbrev cX4_isSale : ByteArray := prog_6_method_6_code
def yX4_isSale : MethodName := ⟨RX4, "isSale", "(IIII)Z"⟩
abbrev cX4_hasSold : ByteArray := prog_6_method_7_code
def yX4_hasSold : MethodName := ⟨RX4, "hasSold", "()Z"⟩
abbrev cX4_unitParts : ByteArray := prog_6_method_8_code
def yX4_unitParts : MethodName := ⟨RX4, "unitParts", "(I)I"⟩
abbrev cX4_spareParts : ByteArray := prog_6_method_9_code
def yX4_spareParts : MethodName := ⟨RX4, "spareParts", "(IIII)I"⟩
abbrev cX4_partsOf : ByteArray := prog_6_method_10_code
def yX4_partsOf : MethodName := ⟨RX4, "partsOf", "(I[I)J"⟩
abbrev cX4_newPrice : ByteArray := prog_6_method_11_code
def yX4_newPrice : MethodName := ⟨RX4, "newPrice", "(II)I"⟩
abbrev cX4_roundsUp : ByteArray := prog_6_method_12_code
def yX4_roundsUp : MethodName := ⟨RX4, "roundsUp", "(IIII)Z"⟩
abbrev cX4_gainOf : ByteArray := prog_6_method_13_code
def yX4_gainOf : MethodName := ⟨RX4, "gainOf", "(II)J"⟩
abbrev cX4_detail : ByteArray := prog_6_method_14_code
def yX4_detail : MethodName := ⟨RX4, "detail", "(I)I"⟩
abbrev cX4_goodDetail : ByteArray := prog_6_method_15_code
def yX4_goodDetail : MethodName := ⟨RX4, "goodDetail", "(I)I"⟩
def RX5 : String := "NewCoins$Till"
def TX5 : u_T := fun k => match k with
  | 0 => ("NewCoins$Till", "old", "[I", true)
  | 1 => ("NewCoins$Till", "fresh", "[I", true)
  | 2 => ("NewCoins$Till", "latest", "[I", true)
  | 3 => ("NewCoins$Till", "expected", "LNewCoins$Expected;", true)
  | 4 => ("NewCoins$Till", "sales", "I", false)
  | 5 => ("NewCoins$Till", "scraps", "J", false)
  | _ => ("NewCoins$Till", "takings", "J", false)
def tyX5 : Nat → FieldType := fun k => match k with
  | 0 => .array .int
  | 1 => .array .int
  | 2 => .array .int
  | 3 => .object "NewCoins$Expected"
  | 4 => .int
  | 5 => .long
  | _ => .long
abbrev wsX50 : List Cond := u_ws RX5 TX5 7
theorem nmX5 : ∀ a, a < 7 → ∀ b, b < 7 → a ≠ b → (TX5 a).2.1 ≠ (TX5 b).2.1 := by decide +kernel
theorem tyX5_ok : ∀ k, k < 7 → parseFieldDescriptor (TX5 k).2.2.1 = some (tyX5 k) := by decide +kernel
abbrev cX5_init : ByteArray := prog_7_method_1_code
def yX5_init : MethodName := ⟨RX5, "<init>", "()V"⟩
abbrev cX5_copyFrom : ByteArray := prog_7_method_2_code
def yX5_copyFrom : MethodName := ⟨RX5, "copyFrom", "(LNewCoins$Till;)V"⟩
abbrev cX5_countsOf : ByteArray := prog_7_method_3_code
def yX5_countsOf : MethodName := ⟨RX5, "countsOf", "(I)[I"⟩
abbrev cX5_close : ByteArray := prog_7_method_4_code
def yX5_close : MethodName := ⟨RX5, "close", "(II[I)V"⟩
def RX6 : String := "NewCoins"
def TX6 : u_T := fun k => match k with
  | 0 => ("NewCoins", "now", "LNewCoins$Land;", true)
  | 1 => ("NewCoins", "images", "[LNewCoins$Land;", true)
  | 2 => ("NewCoins", "taken", "[Z", true)
  | 3 => ("NewCoins", "maker", "LNewCoins$ChangeMaker;", true)
  | 4 => ("NewCoins", "fewestRow", "[I", true)
  | _ => ("NewCoins", "turns", "[J", true)
def tyX6 : Nat → FieldType := fun k => match k with
  | 0 => .object "NewCoins$Land"
  | 1 => .array (.object "NewCoins$Land")
  | 2 => .array .boolean
  | 3 => .object "NewCoins$ChangeMaker"
  | 4 => .array .int
  | _ => .array .long
abbrev wsX60 : List Cond := u_ws RX6 TX6 6
theorem nmX6 : ∀ a, a < 6 → ∀ b, b < 6 → a ≠ b → (TX6 a).2.1 ≠ (TX6 b).2.1 := by decide +kernel
theorem tyX6_ok : ∀ k, k < 6 → parseFieldDescriptor (TX6 k).2.2.1 = some (tyX6 k) := by decide +kernel
abbrev cX6_init : ByteArray := prog_1_method_1_code
def yX6_init : MethodName := ⟨RX6, "<init>", "()V"⟩
abbrev cX6_coin : ByteArray := prog_1_method_2_code
def yX6_coin : MethodName := ⟨RX6, "coin", "(II)I"⟩
abbrev cX6_rate : ByteArray := prog_1_method_3_code
def yX6_rate : MethodName := ⟨RX6, "rate", "(II)Z"⟩
abbrev cX6_good : ByteArray := prog_1_method_4_code
def yX6_good : MethodName := ⟨RX6, "good", "(II)I"⟩
abbrev cX6_sold : ByteArray := prog_1_method_5_code
def yX6_sold : MethodName := ⟨RX6, "sold", "(II)Z"⟩
abbrev cX6_step : ByteArray := prog_1_method_6_code
def yX6_step : MethodName := ⟨RX6, "step", "(I)Z"⟩
abbrev cX6_price : ByteArray := prog_1_method_7_code
def yX6_price : MethodName := ⟨RX6, "price", "(II)I"⟩
abbrev cX6_gain : ByteArray := prog_1_method_8_code
def yX6_gain : MethodName := ⟨RX6, "gain", "(I)J"⟩
abbrev cX6_fairest : ByteArray := prog_1_method_9_code
def yX6_fairest : MethodName := ⟨RX6, "fairest", "()I"⟩
abbrev cX6_gains : ByteArray := prog_1_method_10_code
def yX6_gains : MethodName := ⟨RX6, "gains", "(I)J"⟩
abbrev cX6_fewest : ByteArray := prog_1_method_11_code
def yX6_fewest : MethodName := ⟨RX6, "fewest", "(III)I"⟩
abbrev cX6_greedy : ByteArray := prog_1_method_12_code
def yX6_greedy : MethodName := ⟨RX6, "greedy", "(II)I"⟩
abbrev cX6_odd : ByteArray := prog_1_method_13_code
def yX6_odd : MethodName := ⟨RX6, "odd", "(I)I"⟩
abbrev cX6_till : ByteArray := prog_1_method_14_code
def yX6_till : MethodName := ⟨RX6, "till", "()I"⟩
abbrev cX6_put : ByteArray := prog_1_method_15_code
def yX6_put : MethodName := ⟨RX6, "put", "(IIII)I"⟩
abbrev cX6_sale : ByteArray := prog_1_method_16_code
def yX6_sale : MethodName := ⟨RX6, "sale", "(IIIII)I"⟩
abbrev cX6_given : ByteArray := prog_1_method_17_code
def yX6_given : MethodName := ⟨RX6, "given", "(II)I"⟩
abbrev cX6_tell : ByteArray := prog_1_method_18_code
def yX6_tell : MethodName := ⟨RX6, "tell", "(II)J"⟩
abbrev cX6_has : ByteArray := prog_1_method_19_code
def yX6_has : MethodName := ⟨RX6, "has", "(III)I"⟩
abbrev cX6_draw : ByteArray := prog_1_method_20_code
def yX6_draw : MethodName := ⟨RX6, "draw", "(I)J"⟩
abbrev cX6_drawn : ByteArray := prog_1_method_21_code
def yX6_drawn : MethodName := ⟨RX6, "drawn", "(I)I"⟩
abbrev cX6_expect : ByteArray := prog_1_method_22_code
def yX6_expect : MethodName := ⟨RX6, "expect", "(IIIII)I"⟩
abbrev cX6_forget : ByteArray := prog_1_method_23_code
def yX6_forget : MethodName := ⟨RX6, "forget", "(I)Z"⟩
abbrev cX6_wanted : ByteArray := prog_1_method_24_code
def yX6_wanted : MethodName := ⟨RX6, "wanted", "(II)I"⟩
abbrev cX6_about : ByteArray := prog_1_method_25_code
def yX6_about : MethodName := ⟨RX6, "about", "(II)I"⟩
abbrev cX6_image : ByteArray := prog_1_method_26_code
def yX6_image : MethodName := ⟨RX6, "image", "(I)Z"⟩
abbrev cX6_again : ByteArray := prog_1_method_27_code
def yX6_again : MethodName := ⟨RX6, "again", "(I)Z"⟩
abbrev cX6_within : ByteArray := prog_1_method_28_code
def yX6_within : MethodName := ⟨RX6, "within", "(III)Z"⟩
abbrev cX6_isRule : ByteArray := prog_1_method_29_code
def yX6_isRule : MethodName := ⟨RX6, "isRule", "(I)Z"⟩
abbrev cX6_isSum : ByteArray := prog_1_method_30_code
def yX6_isSum : MethodName := ⟨RX6, "isSum", "(I)Z"⟩
abbrev cX6_wholeTimes : ByteArray := prog_1_method_31_code
def yX6_wholeTimes : MethodName := ⟨RX6, "wholeTimes", "(II)I"⟩
abbrev cX6_startOfWays : ByteArray := prog_1_method_32_code
def yX6_startOfWays : MethodName := ⟨RX6, "startOfWays", "()J"⟩
abbrev cX6_mostLacking : ByteArray := prog_1_method_33_code
def yX6_mostLacking : MethodName := ⟨RX6, "mostLacking", "(LNewCoins$Expected;I)I"⟩
def RX7 : String := "NewCoinsModel"
def TX7 : u_T := fun k => match k with
  | 0 => ("NewCoinsModel", "code", "I", false)
  | 1 => ("NewCoinsModel", "coins", "[I", true)
  | 2 => ("NewCoinsModel", "value", "[I", true)
  | 3 => ("NewCoinsModel", "rates", "[I", true)
  | 4 => ("NewCoinsModel", "sales", "[I", true)
  | 5 => ("NewCoinsModel", "goods", "[I", true)
  | 6 => ("NewCoinsModel", "prices", "[I", true)
  | 7 => ("NewCoinsModel", "times", "[I", true)
  | 8 => ("NewCoinsModel", "steps", "[I", true)
  | 9 => ("NewCoinsModel", "tills", "[I", true)
  | 10 => ("NewCoinsModel", "tillSales", "[I", true)
  | 11 => ("NewCoinsModel", "scraps", "[J", true)
  | 12 => ("NewCoinsModel", "paid", "[J", true)
  | 13 => ("NewCoinsModel", "expected", "[I", true)
  | 14 => ("NewCoinsModel", "has", "[I", true)
  | 15 => ("NewCoinsModel", "gave", "[I", true)
  | 16 => ("NewCoinsModel", "drawnIn", "[I", true)
  | 17 => ("NewCoinsModel", "expects", "[I", true)
  | 18 => ("NewCoinsModel", "one", "[J", true)
  | 19 => ("NewCoinsModel", "by", "[I", true)
  | 20 => ("NewCoinsModel", "few", "[I", true)
  | 21 => ("NewCoinsModel", "take", "[I", true)
  | 22 => ("NewCoinsModel", "bound", "[I", true)
  | 23 => ("NewCoinsModel", "least", "[I", true)
  | 24 => ("NewCoinsModel", "pool", "[I", true)
  | 25 => ("NewCoinsModel", "want", "[I", true)
  | _ => ("NewCoinsModel", "kept", "[Z", true)
def tyX7 : Nat → FieldType := fun k => match k with
  | 0 => .int
  | 1 => .array .int
  | 2 => .array .int
  | 3 => .array .int
  | 4 => .array .int
  | 5 => .array .int
  | 6 => .array .int
  | 7 => .array .int
  | 8 => .array .int
  | 9 => .array .int
  | 10 => .array .int
  | 11 => .array .long
  | 12 => .array .long
  | 13 => .array .int
  | 14 => .array .int
  | 15 => .array .int
  | 16 => .array .int
  | 17 => .array .int
  | 18 => .array .long
  | 19 => .array .int
  | 20 => .array .int
  | 21 => .array .int
  | 22 => .array .int
  | 23 => .array .int
  | 24 => .array .int
  | 25 => .array .int
  | _ => .array .boolean
abbrev wsX70 : List Cond := u_ws RX7 TX7 27
theorem nmX7 : ∀ a, a < 27 → ∀ b, b < 27 → a ≠ b → (TX7 a).2.1 ≠ (TX7 b).2.1 := by decide +kernel
theorem tyX7_ok : ∀ k, k < 27 → parseFieldDescriptor (TX7 k).2.2.1 = some (tyX7 k) := by decide +kernel
abbrev cX7_init : ByteArray := prog_9_method_1_code
def yX7_init : MethodName := ⟨RX7, "<init>", "()V"⟩
abbrev cX7_in : ByteArray := prog_9_method_3_code
def yX7_in : MethodName := ⟨RX7, "in", "(III)Z"⟩
abbrev cX7_move : ByteArray := prog_9_method_4_code
def yX7_move : MethodName := ⟨RX7, "move", "([IIII)V"⟩
abbrev cX7_copy : ByteArray := prog_9_method_5_code
def yX7_copy : MethodName := ⟨RX7, "copy", "(II)V"⟩
abbrev cX7_isCoin : ByteArray := prog_9_method_6_code
def yX7_isCoin : MethodName := ⟨RX7, "isCoin", "(II)Z"⟩
abbrev cX7_coin : ByteArray := prog_9_method_7_code
def yX7_coin : MethodName := ⟨RX7, "coin", "(II)I"⟩
abbrev cX7_rate : ByteArray := prog_9_method_8_code
def yX7_rate : MethodName := ⟨RX7, "rate", "(II)Z"⟩
abbrev cX7_isGood : ByteArray := prog_9_method_9_code
def yX7_isGood : MethodName := ⟨RX7, "isGood", "(I)Z"⟩
abbrev cX7_good : ByteArray := prog_9_method_10_code
def yX7_good : MethodName := ⟨RX7, "good", "(II)I"⟩
abbrev cX7_sold : ByteArray := prog_9_method_11_code
def yX7_sold : MethodName := ⟨RX7, "sold", "(II)Z"⟩
abbrev cX7_step : ByteArray := prog_9_method_12_code
def yX7_step : MethodName := ⟨RX7, "step", "(I)Z"⟩
abbrev cX7_priceOf : ByteArray := prog_9_method_13_code
def yX7_priceOf : MethodName := ⟨RX7, "priceOf", "(II)I"⟩
abbrev cX7_price : ByteArray := prog_9_method_14_code
def yX7_price : MethodName := ⟨RX7, "price", "(II)I"⟩
abbrev cX7_gainOf : ByteArray := prog_9_method_15_code
def yX7_gainOf : MethodName := ⟨RX7, "gainOf", "(II)J"⟩
abbrev cX7_gain : ByteArray := prog_9_method_16_code
def yX7_gain : MethodName := ⟨RX7, "gain", "(I)J"⟩
abbrev cX7_fairest : ByteArray := prog_9_method_17_code
def yX7_fairest : MethodName := ⟨RX7, "fairest", "()I"⟩
abbrev cX7_gains : ByteArray := prog_9_method_18_code
def yX7_gains : MethodName := ⟨RX7, "gains", "(I)J"⟩
abbrev cX7_sortCoins : ByteArray := prog_9_method_19_code
def yX7_sortCoins : MethodName := ⟨RX7, "sortCoins", "(I)V"⟩
abbrev cX7_find : ByteArray := prog_9_method_20_code
def yX7_find : MethodName := ⟨RX7, "find", "(II)I"⟩
abbrev cX7_noBounds : ByteArray := prog_9_method_21_code
def yX7_noBounds : MethodName := ⟨RX7, "noBounds", "()V"⟩
abbrev cX7_fewest : ByteArray := prog_9_method_22_code
def yX7_fewest : MethodName := ⟨RX7, "fewest", "(III)I"⟩
abbrev cX7_greedyOf : ByteArray := prog_9_method_23_code
def yX7_greedyOf : MethodName := ⟨RX7, "greedyOf", "(II)I"⟩
abbrev cX7_greedy : ByteArray := prog_9_method_24_code
def yX7_greedy : MethodName := ⟨RX7, "greedy", "(II)I"⟩
abbrev cX7_odd : ByteArray := prog_9_method_25_code
def yX7_odd : MethodName := ⟨RX7, "odd", "(I)I"⟩
abbrev cX7_isTill : ByteArray := prog_9_method_26_code
def yX7_isTill : MethodName := ⟨RX7, "isTill", "(I)Z"⟩
abbrev cX7_cell : ByteArray := prog_9_method_27_code
def yX7_cell : MethodName := ⟨RX7, "cell", "(III)I"⟩
abbrev cX7_till : ByteArray := prog_9_method_28_code
def yX7_till : MethodName := ⟨RX7, "till", "()I"⟩
abbrev cX7_put : ByteArray := prog_9_method_29_code
def yX7_put : MethodName := ⟨RX7, "put", "(IIII)I"⟩
abbrev cX7_over : ByteArray := prog_9_method_30_code
def yX7_over : MethodName := ⟨RX7, "over", "(IIII)I"⟩
abbrev cX7_isSale : ByteArray := prog_9_method_31_code
def yX7_isSale : MethodName := ⟨RX7, "isSale", "(IIIII)Z"⟩
abbrev cX7_sale : ByteArray := prog_9_method_32_code
def yX7_sale : MethodName := ⟨RX7, "sale", "(IIIII)I"⟩
abbrev cX7_given : ByteArray := prog_9_method_33_code
def yX7_given : MethodName := ⟨RX7, "given", "(II)I"⟩
abbrev cX7_parts : ByteArray := prog_9_method_34_code
def yX7_parts : MethodName := ⟨RX7, "parts", "(II)J"⟩
abbrev cX7_tell : ByteArray := prog_9_method_35_code
def yX7_tell : MethodName := ⟨RX7, "tell", "(II)J"⟩
abbrev cX7_has : ByteArray := prog_9_method_36_code
def yX7_has : MethodName := ⟨RX7, "has", "(III)I"⟩
abbrev cX7_draw : ByteArray := prog_9_method_37_code
def yX7_draw : MethodName := ⟨RX7, "draw", "(I)J"⟩
abbrev cX7_drawn : ByteArray := prog_9_method_38_code
def yX7_drawn : MethodName := ⟨RX7, "drawn", "(I)I"⟩
abbrev cX7_expect : ByteArray := prog_9_method_39_code
def yX7_expect : MethodName := ⟨RX7, "expect", "(IIIII)I"⟩
abbrev cX7_forget : ByteArray := prog_9_method_40_code
def yX7_forget : MethodName := ⟨RX7, "forget", "(I)Z"⟩
abbrev cX7_findWanted : ByteArray := prog_9_method_41_code
def yX7_findWanted : MethodName := ⟨RX7, "findWanted", "(I)Z"⟩
abbrev cX7_wanted : ByteArray := prog_9_method_42_code
def yX7_wanted : MethodName := ⟨RX7, "wanted", "(II)I"⟩
abbrev cX7_about : ByteArray := prog_9_method_43_code
def yX7_about : MethodName := ⟨RX7, "about", "(II)I"⟩
abbrev cX7_image : ByteArray := prog_9_method_44_code
def yX7_image : MethodName := ⟨RX7, "image", "(I)Z"⟩
abbrev cX7_again : ByteArray := prog_9_method_45_code
def yX7_again : MethodName := ⟨RX7, "again", "(I)Z"⟩
def RJ6 : String := "java/lang/Integer"
def TJ6 : u_T := fun k => match k with
  | _ => ("", "", "", false)
def tyJ6 : Nat → FieldType := fun k => match k with
  | _ => .int
abbrev wsJ60 : List Cond := u_ws RJ6 TJ6 0
theorem nmJ6 : ∀ a, a < 0 → ∀ b, b < 0 → a ≠ b → (TJ6 a).2.1 ≠ (TJ6 b).2.1 := by decide +kernel
theorem tyJ6_ok : ∀ k, k < 0 → parseFieldDescriptor (TJ6 k).2.2.1 = some (tyJ6 k) := by decide +kernel
abbrev cJ6_bitCount_0f7a4 : ByteArray := prog_10_method_49_code
def yJ6_bitCount_0f7a4 : MethodName := ⟨RJ6, "bitCount", "(I)I"⟩
def RJ9 : String := "java/lang/Math"
def TJ9 : u_T := fun k => match k with
  | _ => ("", "", "", false)
def tyJ9 : Nat → FieldType := fun k => match k with
  | _ => .int
abbrev wsJ90 : List Cond := u_ws RJ9 TJ9 0
theorem nmJ9 : ∀ a, a < 0 → ∀ b, b < 0 → a ≠ b → (TJ9 a).2.1 ≠ (TJ9 b).2.1 := by decide +kernel
theorem tyJ9_ok : ∀ k, k < 0 → parseFieldDescriptor (TJ9 k).2.2.1 = some (tyJ9 k) := by decide +kernel
abbrev cJ9_abs_067f4 : ByteArray := prog_11_method_61_code
def yJ9_abs_067f4 : MethodName := ⟨RJ9, "abs", "(J)J"⟩
abbrev cJ9_max_7cf53 : ByteArray := prog_11_method_65_code
def yJ9_max_7cf53 : MethodName := ⟨RJ9, "max", "(II)I"⟩
abbrev cJ9_min_7cf53 : ByteArray := prog_11_method_69_code
def yJ9_min_7cf53 : MethodName := ⟨RJ9, "min", "(II)I"⟩
def RJ10 : String := "java/lang/System"
def TJ10 : u_T := fun k => match k with
  | _ => ("", "", "", false)
def tyJ10 : Nat → FieldType := fun k => match k with
  | _ => .int
abbrev wsJ100 : List Cond := u_ws RJ10 TJ10 0
theorem nmJ10 : ∀ a, a < 0 → ∀ b, b < 0 → a ≠ b → (TJ10 a).2.1 ≠ (TJ10 b).2.1 := by decide +kernel
theorem tyJ10_ok : ∀ k, k < 0 → parseFieldDescriptor (TJ10 k).2.2.1 = some (tyJ10 k) := by decide +kernel
def RJ7 : String := "java/util/Arrays"
def TJ7 : u_T := fun k => match k with
  | _ => ("", "", "", false)
def tyJ7 : Nat → FieldType := fun k => match k with
  | _ => .int
abbrev wsJ70 : List Cond := u_ws RJ7 TJ7 0
theorem nmJ7 : ∀ a, a < 0 → ∀ b, b < 0 → a ≠ b → (TJ7 a).2.1 ≠ (TJ7 b).2.1 := by decide +kernel
theorem tyJ7_ok : ∀ k, k < 0 → parseFieldDescriptor (TJ7 k).2.2.1 = some (tyJ7 k) := by decide +kernel
abbrev cJ7_fill_53178 : ByteArray := prog_13_method_103_code
def yJ7_fill_53178 : MethodName := ⟨RJ7, "fill", "([II)V"⟩
def RL : String := "NewCoinsLaw"
abbrev cL_law : ByteArray := code
def yL_law : MethodName := ⟨RL, "law", "([I)Z"⟩
abbrev vwCl : List vw_C := [(RX0, TX0, 4), (RX1, TX1, 4), (RX2, TX2, 5), (RX3, TX3, 3), (RX4, TX4, 9), (RX5, TX5, 7), (RX6, TX6, 6), (RX7, TX7, 27)]
end
section
/-! the words of the tables that a call may pay with; each by its place -/
def nT : List Cond := lw_tbl.filter goodWord
theorem nT_in {w : Cond} {i : Nat} (h : lw_tbl[i]? = some w) (hg : goodWord w = true) : w ∈ nT := List.mem_filter.mpr ⟨List.mem_of_getElem? h, hg⟩
theorem nT_g {w : Cond} (h : w ∈ nT) : goodWord w = true := (List.mem_filter.mp h).2
theorem ws_X1_isValue : Cond.selects RX1 yX1_isValue yX1_isValue ∈ nT := nT_in (i := 0) (by decide +kernel) (by decide +kernel)
theorem ws_X1_rank : Cond.selects RX1 yX1_rank yX1_rank ∈ nT := nT_in (i := 1) (by decide +kernel) (by decide +kernel)
theorem ws_X1_improve : Cond.selects RX1 yX1_improve yX1_improve ∈ nT := nT_in (i := 2) (by decide +kernel) (by decide +kernel)
theorem ws_X6_startOfWays : Cond.selects RX6 yX6_startOfWays yX6_startOfWays ∈ nT := nT_in (i := 3) (by decide +kernel) (by decide +kernel)
theorem ws_X0_allow : Cond.selects RX0 yX0_allow yX0_allow ∈ nT := nT_in (i := 4) (by decide +kernel) (by decide +kernel)
theorem ws_X0_slide : Cond.selects RX0 yX0_slide yX0_slide ∈ nT := nT_in (i := 5) (by decide +kernel) (by decide +kernel)
theorem ws_X0_writeRow : Cond.selects RX0 yX0_writeRow yX0_writeRow ∈ nT := nT_in (i := 6) (by decide +kernel) (by decide +kernel)
theorem ws_X0_leadsOn : Cond.selects RX0 yX0_leadsOn yX0_leadsOn ∈ nT := nT_in (i := 7) (by decide +kernel) (by decide +kernel)
theorem ws_X6_mostLacking : Cond.selects RX6 yX6_mostLacking yX6_mostLacking ∈ nT := nT_in (i := 8) (by decide +kernel) (by decide +kernel)
theorem ws_X4_goodDetail : Cond.selects RX4 yX4_goodDetail yX4_goodDetail ∈ nT := nT_in (i := 9) (by decide +kernel) (by decide +kernel)
theorem ws_X7_isGood : Cond.selects RX7 yX7_isGood yX7_isGood ∈ nT := nT_in (i := 10) (by decide +kernel) (by decide +kernel)
theorem ws_X7_priceOf : Cond.selects RX7 yX7_priceOf yX7_priceOf ∈ nT := nT_in (i := 11) (by decide +kernel) (by decide +kernel)
theorem ws_X7_gainOf : Cond.selects RX7 yX7_gainOf yX7_gainOf ∈ nT := nT_in (i := 12) (by decide +kernel) (by decide +kernel)
theorem ws_X7_isCoin : Cond.selects RX7 yX7_isCoin yX7_isCoin ∈ nT := nT_in (i := 13) (by decide +kernel) (by decide +kernel)
theorem ws_X7_noBounds : Cond.selects RX7 yX7_noBounds yX7_noBounds ∈ nT := nT_in (i := 14) (by decide +kernel) (by decide +kernel)
theorem ws_X7_find : Cond.selects RX7 yX7_find yX7_find ∈ nT := nT_in (i := 15) (by decide +kernel) (by decide +kernel)
theorem ws_X7_sortCoins : Cond.selects RX7 yX7_sortCoins yX7_sortCoins ∈ nT := nT_in (i := 16) (by decide +kernel) (by decide +kernel)
theorem ws_X7_greedyOf : Cond.selects RX7 yX7_greedyOf yX7_greedyOf ∈ nT := nT_in (i := 17) (by decide +kernel) (by decide +kernel)
theorem ws_X7_isTill : Cond.selects RX7 yX7_isTill yX7_isTill ∈ nT := nT_in (i := 18) (by decide +kernel) (by decide +kernel)
theorem ws_X7_isSale : Cond.selects RX7 yX7_isSale yX7_isSale ∈ nT := nT_in (i := 19) (by decide +kernel) (by decide +kernel)
theorem ws_X7_over : Cond.selects RX7 yX7_over yX7_over ∈ nT := nT_in (i := 20) (by decide +kernel) (by decide +kernel)
theorem ws_X7_parts : Cond.selects RX7 yX7_parts yX7_parts ∈ nT := nT_in (i := 21) (by decide +kernel) (by decide +kernel)
theorem ws_X7_findWanted : Cond.selects RX7 yX7_findWanted yX7_findWanted ∈ nT := nT_in (i := 22) (by decide +kernel) (by decide +kernel)
theorem ws_X7_copy : Cond.selects RX7 yX7_copy yX7_copy ∈ nT := nT_in (i := 23) (by decide +kernel) (by decide +kernel)
theorem wn_L : Cond.initialized RL ∈ nT := nT_in (i := 24) (by decide +kernel) (by decide +kernel)
theorem wn_X6 : Cond.initialized RX6 ∈ nT := nT_in (i := 25) (by decide +kernel) (by decide +kernel)
theorem wn_X4 : Cond.initialized RX4 ∈ nT := nT_in (i := 26) (by decide +kernel) (by decide +kernel)
theorem wn_X1 : Cond.initialized RX1 ∈ nT := nT_in (i := 27) (by decide +kernel) (by decide +kernel)
theorem wn_J7 : Cond.initialized RJ7 ∈ nT := nT_in (i := 28) (by decide +kernel) (by decide +kernel)
theorem wn_X3 : Cond.initialized RX3 ∈ nT := nT_in (i := 29) (by decide +kernel) (by decide +kernel)
theorem wn_X5 : Cond.initialized RX5 ∈ nT := nT_in (i := 30) (by decide +kernel) (by decide +kernel)
theorem wn_X2 : Cond.initialized RX2 ∈ nT := nT_in (i := 31) (by decide +kernel) (by decide +kernel)
theorem wn_X0 : Cond.initialized RX0 ∈ nT := nT_in (i := 32) (by decide +kernel) (by decide +kernel)
theorem wn_X7 : Cond.initialized RX7 ∈ nT := nT_in (i := 33) (by decide +kernel) (by decide +kernel)
theorem wn_J9 : Cond.initialized RJ9 ∈ nT := nT_in (i := 34) (by decide +kernel) (by decide +kernel)
theorem wn_J6 : Cond.initialized RJ6 ∈ nT := nT_in (i := 35) (by decide +kernel) (by decide +kernel)
theorem wn_J10 : Cond.initialized RJ10 ∈ nT := nT_in (i := 36) (by decide +kernel) (by decide +kernel)
theorem wq_L_7 : Cond.classLink RL 7 RX6 ∈ nT := nT_in (i := 37) (by decide +kernel) (by decide +kernel)
theorem wo_X6 : Cond.instantiable RX6 6 ∈ nT := nT_in (i := 38) (by decide +kernel) (by decide +kernel)
theorem wl_L_9 : Cond.methodLink RL 9 yX6_init ∈ nT := nT_in (i := 39) (by decide +kernel) (by decide +kernel)
theorem wi_X6_init : Cond.instanceMethod yX6_init ∈ nT := nT_in (i := 40) (by decide +kernel) (by decide +kernel)
set_option maxRecDepth 100000 in
theorem wc_X6_init : Cond.code yX6_init cX6_init 2 (none : Option Jvm.ClassFile.FieldType) ∈ nT := nT_in (i := 41) rfl (by decide +kernel)
theorem wl_X6_1 : Cond.methodLink RX6 1 objectInit ∈ nT := nT_in (i := 42) (by decide +kernel) (by decide +kernel)
theorem wi_objectInit : Cond.instanceMethod objectInit ∈ nT := nT_in (i := 43) (by decide +kernel) (by decide +kernel)
theorem wc_objectInit : Cond.code objectInit ⟨#[0xb1]⟩ 1 none ∈ nT := nT_in (i := 44) (by decide +kernel) (by decide +kernel)
theorem wq_X6_7 : Cond.classLink RX6 7 RX4 ∈ nT := nT_in (i := 45) (by decide +kernel) (by decide +kernel)
theorem wo_X4 : Cond.instantiable RX4 9 ∈ nT := nT_in (i := 46) (by decide +kernel) (by decide +kernel)
theorem wl_X6_9 : Cond.methodLink RX6 9 yX4_init ∈ nT := nT_in (i := 47) (by decide +kernel) (by decide +kernel)
theorem wi_X4_init : Cond.instanceMethod yX4_init ∈ nT := nT_in (i := 48) (by decide +kernel) (by decide +kernel)
set_option maxRecDepth 100000 in
theorem wc_X4_init : Cond.code yX4_init cX4_init 2 (none : Option Jvm.ClassFile.FieldType) ∈ nT := nT_in (i := 49) rfl (by decide +kernel)
theorem wl_X4_3 : Cond.methodLink RX4 3 objectInit ∈ nT := nT_in (i := 50) (by decide +kernel) (by decide +kernel)
theorem wq_X4_9 : Cond.classLink RX4 9 RX1 ∈ nT := nT_in (i := 51) (by decide +kernel) (by decide +kernel)
theorem wo_X1 : Cond.instantiable RX1 4 ∈ nT := nT_in (i := 52) (by decide +kernel) (by decide +kernel)
theorem wl_X4_11 : Cond.methodLink RX4 11 yX1_init ∈ nT := nT_in (i := 53) (by decide +kernel) (by decide +kernel)
theorem wi_X1_init : Cond.instanceMethod yX1_init ∈ nT := nT_in (i := 54) (by decide +kernel) (by decide +kernel)
set_option maxRecDepth 100000 in
theorem wc_X1_init : Cond.code yX1_init cX1_init 1 (none : Option Jvm.ClassFile.FieldType) ∈ nT := nT_in (i := 55) rfl (by decide +kernel)
theorem wl_X1_3 : Cond.methodLink RX1 3 objectInit ∈ nT := nT_in (i := 56) (by decide +kernel) (by decide +kernel)
theorem wl_X1_25 : Cond.methodLink RX1 25 yJ7_fill_53178 ∈ nT := nT_in (i := 57) (by decide +kernel) (by decide +kernel)
theorem wt_J7_fill_53178 : Cond.static yJ7_fill_53178 ∈ nT := nT_in (i := 58) (by decide +kernel) (by decide +kernel)
set_option maxRecDepth 100000 in
theorem wc_J7_fill_53178 : Cond.code yJ7_fill_53178 cJ7_fill_53178 4 (none : Option Jvm.ClassFile.FieldType) ∈ nT := nT_in (i := 59) rfl (by decide +kernel)
theorem wf_X1_9 : Cond.fieldLink RX1 9 "NewCoins$Coinage" "count" "I" ∈ nT := nT_in (i := 60) (by decide +kernel) (by decide +kernel)
theorem wf_X0_36 : Cond.fieldLink RX0 36 "NewCoins$Coinage" "count" "I" ∈ nT := nT_in (i := 61) (by decide +kernel) (by decide +kernel)
theorem wf_X4_93 : Cond.fieldLink RX4 93 "NewCoins$Coinage" "count" "I" ∈ nT := nT_in (i := 62) (by decide +kernel) (by decide +kernel)
theorem wf_X1_15 : Cond.fieldLink RX1 15 "NewCoins$Coinage" "values" "[I" ∈ nT := nT_in (i := 63) (by decide +kernel) (by decide +kernel)
theorem wf_X0_45 : Cond.fieldLink RX0 45 "NewCoins$Coinage" "values" "[I" ∈ nT := nT_in (i := 64) (by decide +kernel) (by decide +kernel)
theorem wf_X4_86 : Cond.fieldLink RX4 86 "NewCoins$Coinage" "values" "[I" ∈ nT := nT_in (i := 65) (by decide +kernel) (by decide +kernel)
theorem wf_X1_19 : Cond.fieldLink RX1 19 "NewCoins$Coinage" "falling" "[I" ∈ nT := nT_in (i := 66) (by decide +kernel) (by decide +kernel)
theorem wf_X0_42 : Cond.fieldLink RX0 42 "NewCoins$Coinage" "falling" "[I" ∈ nT := nT_in (i := 67) (by decide +kernel) (by decide +kernel)
theorem wf_X1_22 : Cond.fieldLink RX1 22 "NewCoins$Coinage" "least" "[I" ∈ nT := nT_in (i := 68) (by decide +kernel) (by decide +kernel)
theorem wf_X6_114 : Cond.fieldLink RX6 114 "NewCoins$Coinage" "least" "[I" ∈ nT := nT_in (i := 69) (by decide +kernel) (by decide +kernel)
theorem wy_X1_count : Cond.lays "NewCoins$Coinage" "NewCoins$Coinage" "count" "I" ∈ nT := nT_in (i := 70) (by decide +kernel) (by decide +kernel)
theorem wy_X1_values : Cond.laysFinal "NewCoins$Coinage" "NewCoins$Coinage" "values" "[I" ∈ nT := nT_in (i := 72) (by decide +kernel) (by decide +kernel)
theorem wy_X1_falling : Cond.laysFinal "NewCoins$Coinage" "NewCoins$Coinage" "falling" "[I" ∈ nT := nT_in (i := 74) (by decide +kernel) (by decide +kernel)
theorem wy_X1_least : Cond.laysFinal "NewCoins$Coinage" "NewCoins$Coinage" "least" "[I" ∈ nT := nT_in (i := 76) (by decide +kernel) (by decide +kernel)
theorem wa_int : Cond.arrayClass .int ∈ nT := nT_in (i := 79) (by decide +kernel) (by decide +kernel)
theorem wq_X4_21 : Cond.classLink RX4 21 RX3 ∈ nT := nT_in (i := 80) (by decide +kernel) (by decide +kernel)
theorem wo_X3 : Cond.instantiable RX3 3 ∈ nT := nT_in (i := 81) (by decide +kernel) (by decide +kernel)
theorem wi_X3_init : Cond.instanceMethod yX3_init ∈ nT := nT_in (i := 83) (by decide +kernel) (by decide +kernel)
set_option maxRecDepth 100000 in
theorem wc_X3_init : Cond.code yX3_init cX3_init 1 (none : Option Jvm.ClassFile.FieldType) ∈ nT := nT_in (i := 84) rfl (by decide +kernel)
theorem wl_X3_3 : Cond.methodLink RX3 3 objectInit ∈ nT := nT_in (i := 85) (by decide +kernel) (by decide +kernel)
theorem wf_X3_9 : Cond.fieldLink RX3 9 "NewCoins$Goods" "count" "I" ∈ nT := nT_in (i := 86) (by decide +kernel) (by decide +kernel)
theorem wf_X6_89 : Cond.fieldLink RX6 89 "NewCoins$Goods" "count" "I" ∈ nT := nT_in (i := 87) (by decide +kernel) (by decide +kernel)
theorem wf_X4_113 : Cond.fieldLink RX4 113 "NewCoins$Goods" "count" "I" ∈ nT := nT_in (i := 88) (by decide +kernel) (by decide +kernel)
theorem wf_X3_15 : Cond.fieldLink RX3 15 "NewCoins$Goods" "prices" "[I" ∈ nT := nT_in (i := 89) (by decide +kernel) (by decide +kernel)
theorem wf_X4_96 : Cond.fieldLink RX4 96 "NewCoins$Goods" "prices" "[I" ∈ nT := nT_in (i := 90) (by decide +kernel) (by decide +kernel)
theorem wf_X3_19 : Cond.fieldLink RX3 19 "NewCoins$Goods" "times" "[I" ∈ nT := nT_in (i := 91) (by decide +kernel) (by decide +kernel)
theorem wf_X6_77 : Cond.fieldLink RX6 77 "NewCoins$Goods" "times" "[I" ∈ nT := nT_in (i := 92) (by decide +kernel) (by decide +kernel)
theorem wf_X4_110 : Cond.fieldLink RX4 110 "NewCoins$Goods" "times" "[I" ∈ nT := nT_in (i := 93) (by decide +kernel) (by decide +kernel)
theorem wy_X3_count : Cond.lays "NewCoins$Goods" "NewCoins$Goods" "count" "I" ∈ nT := nT_in (i := 94) (by decide +kernel) (by decide +kernel)
theorem wy_X3_prices : Cond.laysFinal "NewCoins$Goods" "NewCoins$Goods" "prices" "[I" ∈ nT := nT_in (i := 96) (by decide +kernel) (by decide +kernel)
theorem wy_X3_times : Cond.laysFinal "NewCoins$Goods" "NewCoins$Goods" "times" "[I" ∈ nT := nT_in (i := 98) (by decide +kernel) (by decide +kernel)
theorem wq_X4_28 : Cond.classLink RX4 28 RX5 ∈ nT := nT_in (i := 101) (by decide +kernel) (by decide +kernel)
theorem wo_X5 : Cond.instantiable RX5 7 ∈ nT := nT_in (i := 103) (by decide +kernel) (by decide +kernel)
theorem wi_X5_init : Cond.instanceMethod yX5_init ∈ nT := nT_in (i := 105) (by decide +kernel) (by decide +kernel)
set_option maxRecDepth 100000 in
theorem wc_X5_init : Cond.code yX5_init cX5_init 1 (none : Option Jvm.ClassFile.FieldType) ∈ nT := nT_in (i := 106) rfl (by decide +kernel)
theorem wl_X5_3 : Cond.methodLink RX5 3 objectInit ∈ nT := nT_in (i := 107) (by decide +kernel) (by decide +kernel)
theorem wq_X5_21 : Cond.classLink RX5 21 RX2 ∈ nT := nT_in (i := 108) (by decide +kernel) (by decide +kernel)
theorem wo_X2 : Cond.instantiable RX2 5 ∈ nT := nT_in (i := 109) (by decide +kernel) (by decide +kernel)
theorem wi_X2_init : Cond.instanceMethod yX2_init ∈ nT := nT_in (i := 111) (by decide +kernel) (by decide +kernel)
set_option maxRecDepth 100000 in
theorem wc_X2_init : Cond.code yX2_init cX2_init 1 (none : Option Jvm.ClassFile.FieldType) ∈ nT := nT_in (i := 112) rfl (by decide +kernel)
theorem wl_X2_3 : Cond.methodLink RX2 3 objectInit ∈ nT := nT_in (i := 113) (by decide +kernel) (by decide +kernel)
theorem wf_X2_9 : Cond.fieldLink RX2 9 "NewCoins$Expected" "count" "I" ∈ nT := nT_in (i := 114) (by decide +kernel) (by decide +kernel)
theorem wf_X6_206 : Cond.fieldLink RX6 206 "NewCoins$Expected" "count" "I" ∈ nT := nT_in (i := 115) (by decide +kernel) (by decide +kernel)
theorem wf_X2_15 : Cond.fieldLink RX2 15 "NewCoins$Expected" "prices" "[I" ∈ nT := nT_in (i := 116) (by decide +kernel) (by decide +kernel)
theorem wf_X6_229 : Cond.fieldLink RX6 229 "NewCoins$Expected" "prices" "[I" ∈ nT := nT_in (i := 117) (by decide +kernel) (by decide +kernel)
theorem wf_X2_19 : Cond.fieldLink RX2 19 "NewCoins$Expected" "systems" "[I" ∈ nT := nT_in (i := 118) (by decide +kernel) (by decide +kernel)
theorem wf_X6_232 : Cond.fieldLink RX6 232 "NewCoins$Expected" "systems" "[I" ∈ nT := nT_in (i := 119) (by decide +kernel) (by decide +kernel)
theorem wf_X2_22 : Cond.fieldLink RX2 22 "NewCoins$Expected" "coins" "[I" ∈ nT := nT_in (i := 120) (by decide +kernel) (by decide +kernel)
theorem wf_X6_235 : Cond.fieldLink RX6 235 "NewCoins$Expected" "coins" "[I" ∈ nT := nT_in (i := 121) (by decide +kernel) (by decide +kernel)
theorem wf_X2_25 : Cond.fieldLink RX2 25 "NewCoins$Expected" "numbers" "[I" ∈ nT := nT_in (i := 122) (by decide +kernel) (by decide +kernel)
theorem wf_X6_226 : Cond.fieldLink RX6 226 "NewCoins$Expected" "numbers" "[I" ∈ nT := nT_in (i := 123) (by decide +kernel) (by decide +kernel)
theorem wy_X2_count : Cond.lays "NewCoins$Expected" "NewCoins$Expected" "count" "I" ∈ nT := nT_in (i := 124) (by decide +kernel) (by decide +kernel)
theorem wy_X2_prices : Cond.laysFinal "NewCoins$Expected" "NewCoins$Expected" "prices" "[I" ∈ nT := nT_in (i := 126) (by decide +kernel) (by decide +kernel)
theorem wy_X2_systems : Cond.laysFinal "NewCoins$Expected" "NewCoins$Expected" "systems" "[I" ∈ nT := nT_in (i := 128) (by decide +kernel) (by decide +kernel)
theorem wy_X2_coins : Cond.laysFinal "NewCoins$Expected" "NewCoins$Expected" "coins" "[I" ∈ nT := nT_in (i := 130) (by decide +kernel) (by decide +kernel)
theorem wy_X2_numbers : Cond.laysFinal "NewCoins$Expected" "NewCoins$Expected" "numbers" "[I" ∈ nT := nT_in (i := 132) (by decide +kernel) (by decide +kernel)
theorem wf_X5_9 : Cond.fieldLink RX5 9 "NewCoins$Till" "old" "[I" ∈ nT := nT_in (i := 135) (by decide +kernel) (by decide +kernel)
theorem wf_X6_192 : Cond.fieldLink RX6 192 "NewCoins$Till" "old" "[I" ∈ nT := nT_in (i := 136) (by decide +kernel) (by decide +kernel)
theorem wf_X5_15 : Cond.fieldLink RX5 15 "NewCoins$Till" "fresh" "[I" ∈ nT := nT_in (i := 137) (by decide +kernel) (by decide +kernel)
theorem wf_X6_167 : Cond.fieldLink RX6 167 "NewCoins$Till" "fresh" "[I" ∈ nT := nT_in (i := 138) (by decide +kernel) (by decide +kernel)
theorem wf_X5_18 : Cond.fieldLink RX5 18 "NewCoins$Till" "latest" "[I" ∈ nT := nT_in (i := 139) (by decide +kernel) (by decide +kernel)
theorem wf_X6_183 : Cond.fieldLink RX6 183 "NewCoins$Till" "latest" "[I" ∈ nT := nT_in (i := 140) (by decide +kernel) (by decide +kernel)
theorem wf_X5_24 : Cond.fieldLink RX5 24 "NewCoins$Till" "expected" "LNewCoins$Expected;" ∈ nT := nT_in (i := 141) (by decide +kernel) (by decide +kernel)
theorem wf_X6_202 : Cond.fieldLink RX6 202 "NewCoins$Till" "expected" "LNewCoins$Expected;" ∈ nT := nT_in (i := 142) (by decide +kernel) (by decide +kernel)
theorem wf_X5_28 : Cond.fieldLink RX5 28 "NewCoins$Till" "sales" "I" ∈ nT := nT_in (i := 143) (by decide +kernel) (by decide +kernel)
theorem wf_X4_83 : Cond.fieldLink RX4 83 "NewCoins$Till" "sales" "I" ∈ nT := nT_in (i := 144) (by decide +kernel) (by decide +kernel)
theorem wf_X6_180 : Cond.fieldLink RX6 180 "NewCoins$Till" "sales" "I" ∈ nT := nT_in (i := 145) (by decide +kernel) (by decide +kernel)
theorem wf_X5_32 : Cond.fieldLink RX5 32 "NewCoins$Till" "scraps" "J" ∈ nT := nT_in (i := 146) (by decide +kernel) (by decide +kernel)
theorem wf_X6_188 : Cond.fieldLink RX6 188 "NewCoins$Till" "scraps" "J" ∈ nT := nT_in (i := 147) (by decide +kernel) (by decide +kernel)
theorem wf_X5_36 : Cond.fieldLink RX5 36 "NewCoins$Till" "takings" "J" ∈ nT := nT_in (i := 148) (by decide +kernel) (by decide +kernel)
theorem wf_X6_199 : Cond.fieldLink RX6 199 "NewCoins$Till" "takings" "J" ∈ nT := nT_in (i := 149) (by decide +kernel) (by decide +kernel)
theorem wy_X5_old : Cond.laysFinal "NewCoins$Till" "NewCoins$Till" "old" "[I" ∈ nT := nT_in (i := 150) (by decide +kernel) (by decide +kernel)
theorem wy_X5_fresh : Cond.laysFinal "NewCoins$Till" "NewCoins$Till" "fresh" "[I" ∈ nT := nT_in (i := 152) (by decide +kernel) (by decide +kernel)
theorem wy_X5_latest : Cond.laysFinal "NewCoins$Till" "NewCoins$Till" "latest" "[I" ∈ nT := nT_in (i := 154) (by decide +kernel) (by decide +kernel)
theorem wy_X5_expected : Cond.laysFinal "NewCoins$Till" "NewCoins$Till" "expected" "LNewCoins$Expected;" ∈ nT := nT_in (i := 156) (by decide +kernel) (by decide +kernel)
theorem wy_X5_sales : Cond.lays "NewCoins$Till" "NewCoins$Till" "sales" "I" ∈ nT := nT_in (i := 158) (by decide +kernel) (by decide +kernel)
theorem wy_X5_scraps : Cond.lays "NewCoins$Till" "NewCoins$Till" "scraps" "J" ∈ nT := nT_in (i := 160) (by decide +kernel) (by decide +kernel)
theorem wy_X5_takings : Cond.lays "NewCoins$Till" "NewCoins$Till" "takings" "J" ∈ nT := nT_in (i := 162) (by decide +kernel) (by decide +kernel)
theorem wf_X4_12 : Cond.fieldLink RX4 12 "NewCoins$Land" "old" "LNewCoins$Coinage;" ∈ nT := nT_in (i := 165) (by decide +kernel) (by decide +kernel)
theorem wf_X4_18 : Cond.fieldLink RX4 18 "NewCoins$Land" "fresh" "LNewCoins$Coinage;" ∈ nT := nT_in (i := 166) (by decide +kernel) (by decide +kernel)
theorem wf_X6_163 : Cond.fieldLink RX6 163 "NewCoins$Land" "fresh" "LNewCoins$Coinage;" ∈ nT := nT_in (i := 167) (by decide +kernel) (by decide +kernel)
theorem wf_X4_24 : Cond.fieldLink RX4 24 "NewCoins$Land" "goods" "LNewCoins$Goods;" ∈ nT := nT_in (i := 168) (by decide +kernel) (by decide +kernel)
theorem wf_X6_64 : Cond.fieldLink RX6 64 "NewCoins$Land" "goods" "LNewCoins$Goods;" ∈ nT := nT_in (i := 169) (by decide +kernel) (by decide +kernel)
theorem wf_X4_30 : Cond.fieldLink RX4 30 "NewCoins$Land" "tills" "[LNewCoins$Till;" ∈ nT := nT_in (i := 170) (by decide +kernel) (by decide +kernel)
theorem wf_X4_34 : Cond.fieldLink RX4 34 "NewCoins$Land" "drawnIn" "[I" ∈ nT := nT_in (i := 171) (by decide +kernel) (by decide +kernel)
theorem wf_X6_209 : Cond.fieldLink RX6 209 "NewCoins$Land" "drawnIn" "[I" ∈ nT := nT_in (i := 172) (by decide +kernel) (by decide +kernel)
theorem wf_X4_38 : Cond.fieldLink RX4 38 "NewCoins$Land" "tillCount" "I" ∈ nT := nT_in (i := 173) (by decide +kernel) (by decide +kernel)
theorem wf_X6_134 : Cond.fieldLink RX6 134 "NewCoins$Land" "tillCount" "I" ∈ nT := nT_in (i := 174) (by decide +kernel) (by decide +kernel)
theorem wf_X4_42 : Cond.fieldLink RX4 42 "NewCoins$Land" "a" "I" ∈ nT := nT_in (i := 175) (by decide +kernel) (by decide +kernel)
theorem wf_X6_57 : Cond.fieldLink RX6 57 "NewCoins$Land" "a" "I" ∈ nT := nT_in (i := 176) (by decide +kernel) (by decide +kernel)
theorem wf_X4_45 : Cond.fieldLink RX4 45 "NewCoins$Land" "b" "I" ∈ nT := nT_in (i := 177) (by decide +kernel) (by decide +kernel)
theorem wf_X6_61 : Cond.fieldLink RX6 61 "NewCoins$Land" "b" "I" ∈ nT := nT_in (i := 178) (by decide +kernel) (by decide +kernel)
theorem wf_X4_48 : Cond.fieldLink RX4 48 "NewCoins$Land" "step" "I" ∈ nT := nT_in (i := 179) (by decide +kernel) (by decide +kernel)
theorem wf_X6_80 : Cond.fieldLink RX6 80 "NewCoins$Land" "step" "I" ∈ nT := nT_in (i := 180) (by decide +kernel) (by decide +kernel)
theorem wy_X4_old : Cond.laysFinal "NewCoins$Land" "NewCoins$Land" "old" "LNewCoins$Coinage;" ∈ nT := nT_in (i := 181) (by decide +kernel) (by decide +kernel)
theorem wy_X4_fresh : Cond.laysFinal "NewCoins$Land" "NewCoins$Land" "fresh" "LNewCoins$Coinage;" ∈ nT := nT_in (i := 183) (by decide +kernel) (by decide +kernel)
theorem wy_X4_goods : Cond.laysFinal "NewCoins$Land" "NewCoins$Land" "goods" "LNewCoins$Goods;" ∈ nT := nT_in (i := 185) (by decide +kernel) (by decide +kernel)
theorem wy_X4_tills : Cond.laysFinal "NewCoins$Land" "NewCoins$Land" "tills" "[LNewCoins$Till;" ∈ nT := nT_in (i := 187) (by decide +kernel) (by decide +kernel)
theorem wy_X4_drawnIn : Cond.laysFinal "NewCoins$Land" "NewCoins$Land" "drawnIn" "[I" ∈ nT := nT_in (i := 189) (by decide +kernel) (by decide +kernel)
theorem wy_X4_tillCount : Cond.lays "NewCoins$Land" "NewCoins$Land" "tillCount" "I" ∈ nT := nT_in (i := 191) (by decide +kernel) (by decide +kernel)
theorem wy_X4_a : Cond.lays "NewCoins$Land" "NewCoins$Land" "a" "I" ∈ nT := nT_in (i := 193) (by decide +kernel) (by decide +kernel)
theorem wy_X4_b : Cond.lays "NewCoins$Land" "NewCoins$Land" "b" "I" ∈ nT := nT_in (i := 195) (by decide +kernel) (by decide +kernel)
theorem wy_X4_step : Cond.lays "NewCoins$Land" "NewCoins$Land" "step" "I" ∈ nT := nT_in (i := 197) (by decide +kernel) (by decide +kernel)
theorem wq_X6_24 : Cond.classLink RX6 24 RX0 ∈ nT := nT_in (i := 201) (by decide +kernel) (by decide +kernel)
theorem wo_X0 : Cond.instantiable RX0 4 ∈ nT := nT_in (i := 202) (by decide +kernel) (by decide +kernel)
theorem wi_X0_init : Cond.instanceMethod yX0_init ∈ nT := nT_in (i := 204) (by decide +kernel) (by decide +kernel)
set_option maxRecDepth 100000 in
theorem wc_X0_init : Cond.code yX0_init cX0_init 1 (none : Option Jvm.ClassFile.FieldType) ∈ nT := nT_in (i := 205) rfl (by decide +kernel)
theorem wl_X0_3 : Cond.methodLink RX0 3 objectInit ∈ nT := nT_in (i := 206) (by decide +kernel) (by decide +kernel)
theorem wq_X0_15 : Cond.classLink RX0 15 "[[I" ∈ nT := nT_in (i := 207) (by decide +kernel) (by decide +kernel)
theorem wf_X0_9 : Cond.fieldLink RX0 9 "NewCoins$ChangeMaker" "row" "[I" ∈ nT := nT_in (i := 209) (by decide +kernel) (by decide +kernel)
theorem wf_X6_173 : Cond.fieldLink RX6 173 "NewCoins$ChangeMaker" "row" "[I" ∈ nT := nT_in (i := 210) (by decide +kernel) (by decide +kernel)
theorem wf_X0_17 : Cond.fieldLink RX0 17 "NewCoins$ChangeMaker" "least" "[[I" ∈ nT := nT_in (i := 211) (by decide +kernel) (by decide +kernel)
theorem wf_X0_20 : Cond.fieldLink RX0 20 "NewCoins$ChangeMaker" "places" "[I" ∈ nT := nT_in (i := 212) (by decide +kernel) (by decide +kernel)
theorem wf_X0_23 : Cond.fieldLink RX0 23 "NewCoins$ChangeMaker" "costs" "[I" ∈ nT := nT_in (i := 213) (by decide +kernel) (by decide +kernel)
theorem wy_X0_row : Cond.laysFinal "NewCoins$ChangeMaker" "NewCoins$ChangeMaker" "row" "[I" ∈ nT := nT_in (i := 214) (by decide +kernel) (by decide +kernel)
theorem wy_X0_least : Cond.laysFinal "NewCoins$ChangeMaker" "NewCoins$ChangeMaker" "least" "[[I" ∈ nT := nT_in (i := 216) (by decide +kernel) (by decide +kernel)
theorem wy_X0_places : Cond.laysFinal "NewCoins$ChangeMaker" "NewCoins$ChangeMaker" "places" "[I" ∈ nT := nT_in (i := 218) (by decide +kernel) (by decide +kernel)
theorem wy_X0_costs : Cond.laysFinal "NewCoins$ChangeMaker" "NewCoins$ChangeMaker" "costs" "[I" ∈ nT := nT_in (i := 220) (by decide +kernel) (by decide +kernel)
theorem wa_boolean : Cond.arrayClass .boolean ∈ nT := nT_in (i := 223) (by decide +kernel) (by decide +kernel)
theorem wf_X6_10 : Cond.fieldLink RX6 10 "NewCoins" "now" "LNewCoins$Land;" ∈ nT := nT_in (i := 224) (by decide +kernel) (by decide +kernel)
theorem wf_X6_16 : Cond.fieldLink RX6 16 "NewCoins" "images" "[LNewCoins$Land;" ∈ nT := nT_in (i := 225) (by decide +kernel) (by decide +kernel)
theorem wf_X6_20 : Cond.fieldLink RX6 20 "NewCoins" "taken" "[Z" ∈ nT := nT_in (i := 226) (by decide +kernel) (by decide +kernel)
theorem wf_X6_27 : Cond.fieldLink RX6 27 "NewCoins" "maker" "LNewCoins$ChangeMaker;" ∈ nT := nT_in (i := 227) (by decide +kernel) (by decide +kernel)
theorem wf_X6_31 : Cond.fieldLink RX6 31 "NewCoins" "fewestRow" "[I" ∈ nT := nT_in (i := 228) (by decide +kernel) (by decide +kernel)
theorem wf_X6_35 : Cond.fieldLink RX6 35 "NewCoins" "turns" "[J" ∈ nT := nT_in (i := 229) (by decide +kernel) (by decide +kernel)
theorem wy_X6_now : Cond.laysFinal "NewCoins" "NewCoins" "now" "LNewCoins$Land;" ∈ nT := nT_in (i := 230) (by decide +kernel) (by decide +kernel)
theorem wy_X6_images : Cond.laysFinal "NewCoins" "NewCoins" "images" "[LNewCoins$Land;" ∈ nT := nT_in (i := 232) (by decide +kernel) (by decide +kernel)
theorem wy_X6_taken : Cond.laysFinal "NewCoins" "NewCoins" "taken" "[Z" ∈ nT := nT_in (i := 234) (by decide +kernel) (by decide +kernel)
theorem wy_X6_maker : Cond.laysFinal "NewCoins" "NewCoins" "maker" "LNewCoins$ChangeMaker;" ∈ nT := nT_in (i := 236) (by decide +kernel) (by decide +kernel)
theorem wy_X6_fewestRow : Cond.laysFinal "NewCoins" "NewCoins" "fewestRow" "[I" ∈ nT := nT_in (i := 238) (by decide +kernel) (by decide +kernel)
theorem wy_X6_turns : Cond.laysFinal "NewCoins" "NewCoins" "turns" "[J" ∈ nT := nT_in (i := 240) (by decide +kernel) (by decide +kernel)
theorem wa_long : Cond.arrayClass .long ∈ nT := nT_in (i := 243) (by decide +kernel) (by decide +kernel)
theorem wl_L_13 : Cond.methodLink RL 13 yX6_coin ∈ nT := nT_in (i := 244) (by decide +kernel) (by decide +kernel)
theorem wi_X6_coin : Cond.instanceMethod yX6_coin ∈ nT := nT_in (i := 245) (by decide +kernel) (by decide +kernel)
theorem ws_X6_coin : Cond.selects RX6 yX6_coin yX6_coin ∈ nT := nT_in (i := 246) (by decide +kernel) (by decide +kernel)
set_option maxRecDepth 100000 in
theorem wc_X6_coin : Cond.code yX6_coin cX6_coin 4 (some .int) ∈ nT := nT_in (i := 247) rfl (by decide +kernel)
theorem wl_X6_39 : Cond.methodLink RX6 39 yX4_coinageOf ∈ nT := nT_in (i := 248) (by decide +kernel) (by decide +kernel)
theorem wi_X4_coinageOf : Cond.instanceMethod yX4_coinageOf ∈ nT := nT_in (i := 249) (by decide +kernel) (by decide +kernel)
theorem ws_X4_coinageOf : Cond.selects RX4 yX4_coinageOf yX4_coinageOf ∈ nT := nT_in (i := 250) (by decide +kernel) (by decide +kernel)
set_option maxRecDepth 100000 in
theorem wc_X4_coinageOf : Cond.code yX4_coinageOf cX4_coinageOf 2 (some (.object "NewCoins$Coinage")) ∈ nT := nT_in (i := 251) rfl (by decide +kernel)
theorem wl_X6_43 : Cond.methodLink RX6 43 yX1_add ∈ nT := nT_in (i := 252) (by decide +kernel) (by decide +kernel)
theorem wi_X1_add : Cond.instanceMethod yX1_add ∈ nT := nT_in (i := 253) (by decide +kernel) (by decide +kernel)
theorem ws_X1_add : Cond.selects RX1 yX1_add yX1_add ∈ nT := nT_in (i := 254) (by decide +kernel) (by decide +kernel)
set_option maxRecDepth 100000 in
theorem wc_X1_add : Cond.code yX1_add cX1_add 2 (some .int) ∈ nT := nT_in (i := 255) rfl (by decide +kernel)
theorem wt_X6_within : Cond.static yX6_within ∈ nT := nT_in (i := 257) (by decide +kernel) (by decide +kernel)
set_option maxRecDepth 100000 in
theorem wc_X6_within : Cond.code yX6_within cX6_within 3 (some .boolean) ∈ nT := nT_in (i := 258) rfl (by decide +kernel)
theorem wl_X1_41 : Cond.methodLink RX1 41 yX1_isValue ∈ nT := nT_in (i := 259) (by decide +kernel) (by decide +kernel)
theorem wi_X1_isValue : Cond.instanceMethod yX1_isValue ∈ nT := nT_in (i := 261) (by decide +kernel) (by decide +kernel)
set_option maxRecDepth 100000 in
theorem wc_X1_isValue : Cond.code yX1_isValue cX1_isValue 3 (some .boolean) ∈ nT := nT_in (i := 262) rfl (by decide +kernel)
theorem wl_X1_45 : Cond.methodLink RX1 45 yX1_rank ∈ nT := nT_in (i := 263) (by decide +kernel) (by decide +kernel)
theorem wi_X1_rank : Cond.instanceMethod yX1_rank ∈ nT := nT_in (i := 265) (by decide +kernel) (by decide +kernel)
set_option maxRecDepth 100000 in
theorem wc_X1_rank : Cond.code yX1_rank cX1_rank 3 (none : Option Jvm.ClassFile.FieldType) ∈ nT := nT_in (i := 266) rfl (by decide +kernel)
theorem wl_X1_49 : Cond.methodLink RX1 49 yX1_improve ∈ nT := nT_in (i := 267) (by decide +kernel) (by decide +kernel)
theorem wi_X1_improve : Cond.instanceMethod yX1_improve ∈ nT := nT_in (i := 269) (by decide +kernel) (by decide +kernel)
set_option maxRecDepth 100000 in
theorem wc_X1_improve : Cond.code yX1_improve cX1_improve 4 (none : Option Jvm.ClassFile.FieldType) ∈ nT := nT_in (i := 270) rfl (by decide +kernel)
theorem wl_L_18 : Cond.methodLink RL 18 yX6_rate ∈ nT := nT_in (i := 271) (by decide +kernel) (by decide +kernel)
theorem wi_X6_rate : Cond.instanceMethod yX6_rate ∈ nT := nT_in (i := 272) (by decide +kernel) (by decide +kernel)
theorem ws_X6_rate : Cond.selects RX6 yX6_rate yX6_rate ∈ nT := nT_in (i := 273) (by decide +kernel) (by decide +kernel)
set_option maxRecDepth 100000 in
theorem wc_X6_rate : Cond.code yX6_rate cX6_rate 3 (some .boolean) ∈ nT := nT_in (i := 274) rfl (by decide +kernel)
theorem wl_X6_49 : Cond.methodLink RX6 49 yX6_within ∈ nT := nT_in (i := 275) (by decide +kernel) (by decide +kernel)
theorem wl_X6_53 : Cond.methodLink RX6 53 yX4_hasSold ∈ nT := nT_in (i := 276) (by decide +kernel) (by decide +kernel)
theorem wi_X4_hasSold : Cond.instanceMethod yX4_hasSold ∈ nT := nT_in (i := 277) (by decide +kernel) (by decide +kernel)
theorem ws_X4_hasSold : Cond.selects RX4 yX4_hasSold yX4_hasSold ∈ nT := nT_in (i := 278) (by decide +kernel) (by decide +kernel)
set_option maxRecDepth 100000 in
theorem wc_X4_hasSold : Cond.code yX4_hasSold cX4_hasSold 2 (some .boolean) ∈ nT := nT_in (i := 279) rfl (by decide +kernel)
theorem wl_L_23 : Cond.methodLink RL 23 yX6_good ∈ nT := nT_in (i := 280) (by decide +kernel) (by decide +kernel)
theorem wi_X6_good : Cond.instanceMethod yX6_good ∈ nT := nT_in (i := 281) (by decide +kernel) (by decide +kernel)
theorem ws_X6_good : Cond.selects RX6 yX6_good yX6_good ∈ nT := nT_in (i := 282) (by decide +kernel) (by decide +kernel)
set_option maxRecDepth 100000 in
theorem wc_X6_good : Cond.code yX6_good cX6_good 3 (some .int) ∈ nT := nT_in (i := 283) rfl (by decide +kernel)
theorem wl_X6_68 : Cond.methodLink RX6 68 yX3_add ∈ nT := nT_in (i := 284) (by decide +kernel) (by decide +kernel)
theorem wi_X3_add : Cond.instanceMethod yX3_add ∈ nT := nT_in (i := 285) (by decide +kernel) (by decide +kernel)
theorem ws_X3_add : Cond.selects RX3 yX3_add yX3_add ∈ nT := nT_in (i := 286) (by decide +kernel) (by decide +kernel)
set_option maxRecDepth 100000 in
theorem wc_X3_add : Cond.code yX3_add cX3_add 3 (some .int) ∈ nT := nT_in (i := 287) rfl (by decide +kernel)
theorem wl_L_27 : Cond.methodLink RL 27 yX6_sold ∈ nT := nT_in (i := 289) (by decide +kernel) (by decide +kernel)
theorem wi_X6_sold : Cond.instanceMethod yX6_sold ∈ nT := nT_in (i := 290) (by decide +kernel) (by decide +kernel)
theorem ws_X6_sold : Cond.selects RX6 yX6_sold yX6_sold ∈ nT := nT_in (i := 291) (by decide +kernel) (by decide +kernel)
set_option maxRecDepth 100000 in
theorem wc_X6_sold : Cond.code yX6_sold cX6_sold 3 (some .boolean) ∈ nT := nT_in (i := 292) rfl (by decide +kernel)
theorem wl_X6_73 : Cond.methodLink RX6 73 yX3_isGood ∈ nT := nT_in (i := 293) (by decide +kernel) (by decide +kernel)
theorem wi_X3_isGood : Cond.instanceMethod yX3_isGood ∈ nT := nT_in (i := 294) (by decide +kernel) (by decide +kernel)
theorem ws_X3_isGood : Cond.selects RX3 yX3_isGood yX3_isGood ∈ nT := nT_in (i := 295) (by decide +kernel) (by decide +kernel)
set_option maxRecDepth 100000 in
theorem wc_X3_isGood : Cond.code yX3_isGood cX3_isGood 2 (some .boolean) ∈ nT := nT_in (i := 296) rfl (by decide +kernel)
theorem wl_L_31 : Cond.methodLink RL 31 yX6_step ∈ nT := nT_in (i := 297) (by decide +kernel) (by decide +kernel)
theorem wi_X6_step : Cond.instanceMethod yX6_step ∈ nT := nT_in (i := 298) (by decide +kernel) (by decide +kernel)
theorem ws_X6_step : Cond.selects RX6 yX6_step yX6_step ∈ nT := nT_in (i := 299) (by decide +kernel) (by decide +kernel)
set_option maxRecDepth 100000 in
theorem wc_X6_step : Cond.code yX6_step cX6_step 2 (some .boolean) ∈ nT := nT_in (i := 300) rfl (by decide +kernel)
theorem wl_L_36 : Cond.methodLink RL 36 yX6_price ∈ nT := nT_in (i := 301) (by decide +kernel) (by decide +kernel)
theorem wi_X6_price : Cond.instanceMethod yX6_price ∈ nT := nT_in (i := 302) (by decide +kernel) (by decide +kernel)
theorem ws_X6_price : Cond.selects RX6 yX6_price yX6_price ∈ nT := nT_in (i := 303) (by decide +kernel) (by decide +kernel)
set_option maxRecDepth 100000 in
theorem wc_X6_price : Cond.code yX6_price cX6_price 3 (some .int) ∈ nT := nT_in (i := 304) rfl (by decide +kernel)
theorem wl_X6_83 : Cond.methodLink RX6 83 yX6_isRule ∈ nT := nT_in (i := 305) (by decide +kernel) (by decide +kernel)
theorem wt_X6_isRule : Cond.static yX6_isRule ∈ nT := nT_in (i := 306) (by decide +kernel) (by decide +kernel)
set_option maxRecDepth 100000 in
theorem wc_X6_isRule : Cond.code yX6_isRule cX6_isRule 1 (some .boolean) ∈ nT := nT_in (i := 307) rfl (by decide +kernel)
theorem wl_X6_86 : Cond.methodLink RX6 86 yX4_newPrice ∈ nT := nT_in (i := 308) (by decide +kernel) (by decide +kernel)
theorem wi_X4_newPrice : Cond.instanceMethod yX4_newPrice ∈ nT := nT_in (i := 309) (by decide +kernel) (by decide +kernel)
theorem ws_X4_newPrice : Cond.selects RX4 yX4_newPrice yX4_newPrice ∈ nT := nT_in (i := 310) (by decide +kernel) (by decide +kernel)
set_option maxRecDepth 100000 in
theorem wc_X4_newPrice : Cond.code yX4_newPrice cX4_newPrice 7 (some .int) ∈ nT := nT_in (i := 311) rfl (by decide +kernel)
theorem wt_X6_wholeTimes : Cond.static yX6_wholeTimes ∈ nT := nT_in (i := 313) (by decide +kernel) (by decide +kernel)
set_option maxRecDepth 100000 in
theorem wc_X6_wholeTimes : Cond.code yX6_wholeTimes cX6_wholeTimes 2 (some .int) ∈ nT := nT_in (i := 314) rfl (by decide +kernel)
theorem wl_X4_103 : Cond.methodLink RX4 103 yX4_roundsUp ∈ nT := nT_in (i := 315) (by decide +kernel) (by decide +kernel)
theorem wt_X4_roundsUp : Cond.static yX4_roundsUp ∈ nT := nT_in (i := 316) (by decide +kernel) (by decide +kernel)
set_option maxRecDepth 100000 in
theorem wc_X4_roundsUp : Cond.code yX4_roundsUp cX4_roundsUp 4 (some .boolean) ∈ nT := nT_in (i := 317) rfl (by decide +kernel)
theorem wl_L_40 : Cond.methodLink RL 40 yX6_gain ∈ nT := nT_in (i := 318) (by decide +kernel) (by decide +kernel)
theorem wi_X6_gain : Cond.instanceMethod yX6_gain ∈ nT := nT_in (i := 319) (by decide +kernel) (by decide +kernel)
theorem ws_X6_gain : Cond.selects RX6 yX6_gain yX6_gain ∈ nT := nT_in (i := 320) (by decide +kernel) (by decide +kernel)
set_option maxRecDepth 100000 in
theorem wc_X6_gain : Cond.code yX6_gain cX6_gain 5 (some .long) ∈ nT := nT_in (i := 321) rfl (by decide +kernel)
theorem wl_X6_92 : Cond.methodLink RX6 92 yX4_gainOf ∈ nT := nT_in (i := 322) (by decide +kernel) (by decide +kernel)
theorem wi_X4_gainOf : Cond.instanceMethod yX4_gainOf ∈ nT := nT_in (i := 323) (by decide +kernel) (by decide +kernel)
theorem ws_X4_gainOf : Cond.selects RX4 yX4_gainOf yX4_gainOf ∈ nT := nT_in (i := 324) (by decide +kernel) (by decide +kernel)
set_option maxRecDepth 100000 in
theorem wc_X4_gainOf : Cond.code yX4_gainOf cX4_gainOf 5 (some .long) ∈ nT := nT_in (i := 325) rfl (by decide +kernel)
theorem wl_X4_107 : Cond.methodLink RX4 107 yX4_newPrice ∈ nT := nT_in (i := 326) (by decide +kernel) (by decide +kernel)
theorem wl_L_45 : Cond.methodLink RL 45 yX6_fairest ∈ nT := nT_in (i := 327) (by decide +kernel) (by decide +kernel)
theorem wi_X6_fairest : Cond.instanceMethod yX6_fairest ∈ nT := nT_in (i := 328) (by decide +kernel) (by decide +kernel)
theorem ws_X6_fairest : Cond.selects RX6 yX6_fairest yX6_fairest ∈ nT := nT_in (i := 329) (by decide +kernel) (by decide +kernel)
set_option maxRecDepth 100000 in
theorem wc_X6_fairest : Cond.code yX6_fairest cX6_fairest 9 (some .int) ∈ nT := nT_in (i := 330) rfl (by decide +kernel)
theorem wl_X6_96 : Cond.methodLink RX6 96 yX6_startOfWays ∈ nT := nT_in (i := 331) (by decide +kernel) (by decide +kernel)
theorem wi_X6_startOfWays : Cond.instanceMethod yX6_startOfWays ∈ nT := nT_in (i := 333) (by decide +kernel) (by decide +kernel)
set_option maxRecDepth 100000 in
theorem wc_X6_startOfWays : Cond.code yX6_startOfWays cX6_startOfWays 10 (some .long) ∈ nT := nT_in (i := 334) rfl (by decide +kernel)
theorem wl_X6_100 : Cond.methodLink RX6 100 yJ9_abs_067f4 ∈ nT := nT_in (i := 335) (by decide +kernel) (by decide +kernel)
theorem wt_J9_abs_067f4 : Cond.static yJ9_abs_067f4 ∈ nT := nT_in (i := 336) (by decide +kernel) (by decide +kernel)
set_option maxRecDepth 100000 in
theorem wc_J9_abs_067f4 : Cond.code yJ9_abs_067f4 cJ9_abs_067f4 2 (some .long) ∈ nT := nT_in (i := 337) rfl (by decide +kernel)
theorem wl_X6_106 : Cond.methodLink RX6 106 yJ6_bitCount_0f7a4 ∈ nT := nT_in (i := 338) (by decide +kernel) (by decide +kernel)
theorem wt_J6_bitCount_0f7a4 : Cond.static yJ6_bitCount_0f7a4 ∈ nT := nT_in (i := 339) (by decide +kernel) (by decide +kernel)
set_option maxRecDepth 100000 in
theorem wc_J6_bitCount_0f7a4 : Cond.code yJ6_bitCount_0f7a4 cJ6_bitCount_0f7a4 1 (some .int) ∈ nT := nT_in (i := 340) rfl (by decide +kernel)
theorem wk_J6_265 : Cond.constant RJ6 265 (1431655765) ∈ nT := nT_in (i := 341) (by decide +kernel) (by decide +kernel)
theorem wk_J6_266 : Cond.constant RJ6 266 (858993459) ∈ nT := nT_in (i := 342) (by decide +kernel) (by decide +kernel)
theorem wk_J6_267 : Cond.constant RJ6 267 (252645135) ∈ nT := nT_in (i := 343) (by decide +kernel) (by decide +kernel)
theorem wl_L_50 : Cond.methodLink RL 50 yX6_gains ∈ nT := nT_in (i := 344) (by decide +kernel) (by decide +kernel)
theorem wi_X6_gains : Cond.instanceMethod yX6_gains ∈ nT := nT_in (i := 345) (by decide +kernel) (by decide +kernel)
theorem ws_X6_gains : Cond.selects RX6 yX6_gains yX6_gains ∈ nT := nT_in (i := 346) (by decide +kernel) (by decide +kernel)
set_option maxRecDepth 100000 in
theorem wc_X6_gains : Cond.code yX6_gains cX6_gains 6 (some .long) ∈ nT := nT_in (i := 347) rfl (by decide +kernel)
theorem wl_L_54 : Cond.methodLink RL 54 yX6_fewest ∈ nT := nT_in (i := 348) (by decide +kernel) (by decide +kernel)
theorem wi_X6_fewest : Cond.instanceMethod yX6_fewest ∈ nT := nT_in (i := 349) (by decide +kernel) (by decide +kernel)
theorem ws_X6_fewest : Cond.selects RX6 yX6_fewest yX6_fewest ∈ nT := nT_in (i := 350) (by decide +kernel) (by decide +kernel)
set_option maxRecDepth 100000 in
theorem wc_X6_fewest : Cond.code yX6_fewest cX6_fewest 5 (some .int) ∈ nT := nT_in (i := 351) rfl (by decide +kernel)
theorem wl_X6_111 : Cond.methodLink RX6 111 yX1_hasFewest ∈ nT := nT_in (i := 352) (by decide +kernel) (by decide +kernel)
theorem wi_X1_hasFewest : Cond.instanceMethod yX1_hasFewest ∈ nT := nT_in (i := 353) (by decide +kernel) (by decide +kernel)
theorem ws_X1_hasFewest : Cond.selects RX1 yX1_hasFewest yX1_hasFewest ∈ nT := nT_in (i := 354) (by decide +kernel) (by decide +kernel)
set_option maxRecDepth 100000 in
theorem wc_X1_hasFewest : Cond.code yX1_hasFewest cX1_hasFewest 2 (some .boolean) ∈ nT := nT_in (i := 355) rfl (by decide +kernel)
theorem wt_X6_isSum : Cond.static yX6_isSum ∈ nT := nT_in (i := 357) (by decide +kernel) (by decide +kernel)
set_option maxRecDepth 100000 in
theorem wc_X6_isSum : Cond.code yX6_isSum cX6_isSum 1 (some .boolean) ∈ nT := nT_in (i := 358) rfl (by decide +kernel)
theorem wl_X6_117 : Cond.methodLink RX6 117 yX1_isCoin ∈ nT := nT_in (i := 359) (by decide +kernel) (by decide +kernel)
theorem wi_X1_isCoin : Cond.instanceMethod yX1_isCoin ∈ nT := nT_in (i := 360) (by decide +kernel) (by decide +kernel)
theorem ws_X1_isCoin : Cond.selects RX1 yX1_isCoin yX1_isCoin ∈ nT := nT_in (i := 361) (by decide +kernel) (by decide +kernel)
set_option maxRecDepth 100000 in
theorem wc_X1_isCoin : Cond.code yX1_isCoin cX1_isCoin 2 (some .boolean) ∈ nT := nT_in (i := 362) rfl (by decide +kernel)
theorem wl_X6_120 : Cond.methodLink RX6 120 yX1_writeFewest ∈ nT := nT_in (i := 363) (by decide +kernel) (by decide +kernel)
theorem wi_X1_writeFewest : Cond.instanceMethod yX1_writeFewest ∈ nT := nT_in (i := 364) (by decide +kernel) (by decide +kernel)
theorem ws_X1_writeFewest : Cond.selects RX1 yX1_writeFewest yX1_writeFewest ∈ nT := nT_in (i := 365) (by decide +kernel) (by decide +kernel)
set_option maxRecDepth 100000 in
theorem wc_X1_writeFewest : Cond.code yX1_writeFewest cX1_writeFewest 8 (none : Option Jvm.ClassFile.FieldType) ∈ nT := nT_in (i := 366) rfl (by decide +kernel)
theorem wl_L_59 : Cond.methodLink RL 59 yX6_greedy ∈ nT := nT_in (i := 368) (by decide +kernel) (by decide +kernel)
theorem wi_X6_greedy : Cond.instanceMethod yX6_greedy ∈ nT := nT_in (i := 369) (by decide +kernel) (by decide +kernel)
theorem ws_X6_greedy : Cond.selects RX6 yX6_greedy yX6_greedy ∈ nT := nT_in (i := 370) (by decide +kernel) (by decide +kernel)
set_option maxRecDepth 100000 in
theorem wc_X6_greedy : Cond.code yX6_greedy cX6_greedy 4 (some .int) ∈ nT := nT_in (i := 371) rfl (by decide +kernel)
theorem wl_X6_124 : Cond.methodLink RX6 124 yX6_isSum ∈ nT := nT_in (i := 372) (by decide +kernel) (by decide +kernel)
theorem wl_X6_127 : Cond.methodLink RX6 127 yX1_countGreedily ∈ nT := nT_in (i := 373) (by decide +kernel) (by decide +kernel)
theorem wi_X1_countGreedily : Cond.instanceMethod yX1_countGreedily ∈ nT := nT_in (i := 374) (by decide +kernel) (by decide +kernel)
theorem ws_X1_countGreedily : Cond.selects RX1 yX1_countGreedily yX1_countGreedily ∈ nT := nT_in (i := 375) (by decide +kernel) (by decide +kernel)
set_option maxRecDepth 100000 in
theorem wc_X1_countGreedily : Cond.code yX1_countGreedily cX1_countGreedily 7 (some .int) ∈ nT := nT_in (i := 376) rfl (by decide +kernel)
theorem wl_L_63 : Cond.methodLink RL 63 yX6_odd ∈ nT := nT_in (i := 377) (by decide +kernel) (by decide +kernel)
theorem wi_X6_odd : Cond.instanceMethod yX6_odd ∈ nT := nT_in (i := 378) (by decide +kernel) (by decide +kernel)
theorem ws_X6_odd : Cond.selects RX6 yX6_odd yX6_odd ∈ nT := nT_in (i := 379) (by decide +kernel) (by decide +kernel)
set_option maxRecDepth 100000 in
theorem wc_X6_odd : Cond.code yX6_odd cX6_odd 3 (some .int) ∈ nT := nT_in (i := 380) rfl (by decide +kernel)
theorem wl_X6_130 : Cond.methodLink RX6 130 yX1_leastOdd ∈ nT := nT_in (i := 381) (by decide +kernel) (by decide +kernel)
theorem wi_X1_leastOdd : Cond.instanceMethod yX1_leastOdd ∈ nT := nT_in (i := 382) (by decide +kernel) (by decide +kernel)
theorem ws_X1_leastOdd : Cond.selects RX1 yX1_leastOdd yX1_leastOdd ∈ nT := nT_in (i := 383) (by decide +kernel) (by decide +kernel)
set_option maxRecDepth 100000 in
theorem wc_X1_leastOdd : Cond.code yX1_leastOdd cX1_leastOdd 2 (some .int) ∈ nT := nT_in (i := 384) rfl (by decide +kernel)
theorem wl_X1_59 : Cond.methodLink RX1 59 yX1_countGreedily ∈ nT := nT_in (i := 385) (by decide +kernel) (by decide +kernel)
theorem wl_L_68 : Cond.methodLink RL 68 yX6_till ∈ nT := nT_in (i := 386) (by decide +kernel) (by decide +kernel)
theorem wi_X6_till : Cond.instanceMethod yX6_till ∈ nT := nT_in (i := 387) (by decide +kernel) (by decide +kernel)
theorem ws_X6_till : Cond.selects RX6 yX6_till yX6_till ∈ nT := nT_in (i := 388) (by decide +kernel) (by decide +kernel)
set_option maxRecDepth 100000 in
theorem wc_X6_till : Cond.code yX6_till cX6_till 1 (some .int) ∈ nT := nT_in (i := 389) rfl (by decide +kernel)
theorem wl_L_72 : Cond.methodLink RL 72 yX6_put ∈ nT := nT_in (i := 390) (by decide +kernel) (by decide +kernel)
theorem wi_X6_put : Cond.instanceMethod yX6_put ∈ nT := nT_in (i := 391) (by decide +kernel) (by decide +kernel)
theorem ws_X6_put : Cond.selects RX6 yX6_put yX6_put ∈ nT := nT_in (i := 392) (by decide +kernel) (by decide +kernel)
set_option maxRecDepth 100000 in
theorem wc_X6_put : Cond.code yX6_put cX6_put 9 (some .int) ∈ nT := nT_in (i := 393) rfl (by decide +kernel)
theorem wl_X6_137 : Cond.methodLink RX6 137 yX4_tillAt ∈ nT := nT_in (i := 394) (by decide +kernel) (by decide +kernel)
theorem wi_X4_tillAt : Cond.instanceMethod yX4_tillAt ∈ nT := nT_in (i := 395) (by decide +kernel) (by decide +kernel)
theorem ws_X4_tillAt : Cond.selects RX4 yX4_tillAt yX4_tillAt ∈ nT := nT_in (i := 396) (by decide +kernel) (by decide +kernel)
set_option maxRecDepth 100000 in
theorem wc_X4_tillAt : Cond.code yX4_tillAt cX4_tillAt 2 (some (.object "NewCoins$Till")) ∈ nT := nT_in (i := 397) rfl (by decide +kernel)
theorem wl_X6_141 : Cond.methodLink RX6 141 yX4_isCoin ∈ nT := nT_in (i := 399) (by decide +kernel) (by decide +kernel)
theorem wi_X4_isCoin : Cond.instanceMethod yX4_isCoin ∈ nT := nT_in (i := 400) (by decide +kernel) (by decide +kernel)
theorem ws_X4_isCoin : Cond.selects RX4 yX4_isCoin yX4_isCoin ∈ nT := nT_in (i := 401) (by decide +kernel) (by decide +kernel)
set_option maxRecDepth 100000 in
theorem wc_X4_isCoin : Cond.code yX4_isCoin cX4_isCoin 4 (some .boolean) ∈ nT := nT_in (i := 402) rfl (by decide +kernel)
theorem wl_X4_72 : Cond.methodLink RX4 72 yX4_coinageOf ∈ nT := nT_in (i := 403) (by decide +kernel) (by decide +kernel)
theorem wl_X4_76 : Cond.methodLink RX4 76 yX1_isCoin ∈ nT := nT_in (i := 404) (by decide +kernel) (by decide +kernel)
theorem wl_X6_144 : Cond.methodLink RX6 144 yX5_countsOf ∈ nT := nT_in (i := 405) (by decide +kernel) (by decide +kernel)
theorem wi_X5_countsOf : Cond.instanceMethod yX5_countsOf ∈ nT := nT_in (i := 406) (by decide +kernel) (by decide +kernel)
theorem ws_X5_countsOf : Cond.selects RX5 yX5_countsOf yX5_countsOf ∈ nT := nT_in (i := 407) (by decide +kernel) (by decide +kernel)
set_option maxRecDepth 100000 in
theorem wc_X5_countsOf : Cond.code yX5_countsOf cX5_countsOf 2 (some (.array .int)) ∈ nT := nT_in (i := 408) rfl (by decide +kernel)
theorem wk_X6_150 : Cond.constantLong RX6 150 (1000) ∈ nT := nT_in (i := 409) (by decide +kernel) (by decide +kernel)
theorem wl_L_77 : Cond.methodLink RL 77 yX6_sale ∈ nT := nT_in (i := 410) (by decide +kernel) (by decide +kernel)
theorem wi_X6_sale : Cond.instanceMethod yX6_sale ∈ nT := nT_in (i := 411) (by decide +kernel) (by decide +kernel)
theorem ws_X6_sale : Cond.selects RX6 yX6_sale yX6_sale ∈ nT := nT_in (i := 412) (by decide +kernel) (by decide +kernel)
set_option maxRecDepth 100000 in
theorem wc_X6_sale : Cond.code yX6_sale cX6_sale 10 (some .int) ∈ nT := nT_in (i := 413) rfl (by decide +kernel)
theorem wl_X6_152 : Cond.methodLink RX6 152 yX4_isSale ∈ nT := nT_in (i := 414) (by decide +kernel) (by decide +kernel)
theorem wi_X4_isSale : Cond.instanceMethod yX4_isSale ∈ nT := nT_in (i := 415) (by decide +kernel) (by decide +kernel)
theorem ws_X4_isSale : Cond.selects RX4 yX4_isSale yX4_isSale ∈ nT := nT_in (i := 416) (by decide +kernel) (by decide +kernel)
set_option maxRecDepth 100000 in
theorem wc_X4_isSale : Cond.code yX4_isSale cX4_isSale 5 (some .boolean) ∈ nT := nT_in (i := 417) rfl (by decide +kernel)
theorem wl_X4_80 : Cond.methodLink RX4 80 yX4_isCoin ∈ nT := nT_in (i := 418) (by decide +kernel) (by decide +kernel)
theorem wl_X6_156 : Cond.methodLink RX6 156 yX4_spareParts ∈ nT := nT_in (i := 419) (by decide +kernel) (by decide +kernel)
theorem wi_X4_spareParts : Cond.instanceMethod yX4_spareParts ∈ nT := nT_in (i := 420) (by decide +kernel) (by decide +kernel)
theorem ws_X4_spareParts : Cond.selects RX4 yX4_spareParts yX4_spareParts ∈ nT := nT_in (i := 421) (by decide +kernel) (by decide +kernel)
set_option maxRecDepth 100000 in
theorem wc_X4_spareParts : Cond.code yX4_spareParts cX4_spareParts 6 (some .int) ∈ nT := nT_in (i := 422) rfl (by decide +kernel)
theorem wl_X4_89 : Cond.methodLink RX4 89 yX4_unitParts ∈ nT := nT_in (i := 423) (by decide +kernel) (by decide +kernel)
theorem wi_X4_unitParts : Cond.instanceMethod yX4_unitParts ∈ nT := nT_in (i := 424) (by decide +kernel) (by decide +kernel)
theorem ws_X4_unitParts : Cond.selects RX4 yX4_unitParts yX4_unitParts ∈ nT := nT_in (i := 425) (by decide +kernel) (by decide +kernel)
set_option maxRecDepth 100000 in
theorem wc_X4_unitParts : Cond.code yX4_unitParts cX4_unitParts 2 (some .int) ∈ nT := nT_in (i := 426) rfl (by decide +kernel)
theorem wl_X6_160 : Cond.methodLink RX6 160 yX6_wholeTimes ∈ nT := nT_in (i := 427) (by decide +kernel) (by decide +kernel)
theorem wl_X6_169 : Cond.methodLink RX6 169 yX0_make ∈ nT := nT_in (i := 428) (by decide +kernel) (by decide +kernel)
theorem wi_X0_make : Cond.instanceMethod yX0_make ∈ nT := nT_in (i := 429) (by decide +kernel) (by decide +kernel)
theorem ws_X0_make : Cond.selects RX0 yX0_make yX0_make ∈ nT := nT_in (i := 430) (by decide +kernel) (by decide +kernel)
set_option maxRecDepth 100000 in
theorem wc_X0_make : Cond.code yX0_make cX0_make 7 (some .boolean) ∈ nT := nT_in (i := 431) rfl (by decide +kernel)
theorem wl_X0_30 : Cond.methodLink RX0 30 yJ7_fill_53178 ∈ nT := nT_in (i := 433) (by decide +kernel) (by decide +kernel)
theorem wl_X0_48 : Cond.methodLink RX0 48 yX0_allow ∈ nT := nT_in (i := 434) (by decide +kernel) (by decide +kernel)
theorem wi_X0_allow : Cond.instanceMethod yX0_allow ∈ nT := nT_in (i := 436) (by decide +kernel) (by decide +kernel)
set_option maxRecDepth 100000 in
theorem wc_X0_allow : Cond.code yX0_allow cX0_allow 6 (none : Option Jvm.ClassFile.FieldType) ∈ nT := nT_in (i := 437) rfl (by decide +kernel)
theorem wl_X0_56 : Cond.methodLink RX0 56 yX0_slide ∈ nT := nT_in (i := 438) (by decide +kernel) (by decide +kernel)
theorem wi_X0_slide : Cond.instanceMethod yX0_slide ∈ nT := nT_in (i := 440) (by decide +kernel) (by decide +kernel)
set_option maxRecDepth 100000 in
theorem wc_X0_slide : Cond.code yX0_slide cX0_slide 12 (none : Option Jvm.ClassFile.FieldType) ∈ nT := nT_in (i := 441) rfl (by decide +kernel)
theorem wl_X0_52 : Cond.methodLink RX0 52 yX0_writeRow ∈ nT := nT_in (i := 442) (by decide +kernel) (by decide +kernel)
theorem wi_X0_writeRow : Cond.instanceMethod yX0_writeRow ∈ nT := nT_in (i := 444) (by decide +kernel) (by decide +kernel)
set_option maxRecDepth 100000 in
theorem wc_X0_writeRow : Cond.code yX0_writeRow cX0_writeRow 9 (none : Option Jvm.ClassFile.FieldType) ∈ nT := nT_in (i := 445) rfl (by decide +kernel)
theorem wl_X0_64 : Cond.methodLink RX0 64 yJ9_min_7cf53 ∈ nT := nT_in (i := 447) (by decide +kernel) (by decide +kernel)
theorem wt_J9_min_7cf53 : Cond.static yJ9_min_7cf53 ∈ nT := nT_in (i := 448) (by decide +kernel) (by decide +kernel)
set_option maxRecDepth 100000 in
theorem wc_J9_min_7cf53 : Cond.code yJ9_min_7cf53 cJ9_min_7cf53 2 (some .int) ∈ nT := nT_in (i := 449) rfl (by decide +kernel)
theorem wl_X0_69 : Cond.methodLink RX0 69 yX0_leadsOn ∈ nT := nT_in (i := 450) (by decide +kernel) (by decide +kernel)
theorem wi_X0_leadsOn : Cond.instanceMethod yX0_leadsOn ∈ nT := nT_in (i := 452) (by decide +kernel) (by decide +kernel)
set_option maxRecDepth 100000 in
theorem wc_X0_leadsOn : Cond.code yX0_leadsOn cX0_leadsOn 5 (some .boolean) ∈ nT := nT_in (i := 453) rfl (by decide +kernel)
theorem wl_X6_176 : Cond.methodLink RX6 176 yX5_close ∈ nT := nT_in (i := 454) (by decide +kernel) (by decide +kernel)
theorem wi_X5_close : Cond.instanceMethod yX5_close ∈ nT := nT_in (i := 455) (by decide +kernel) (by decide +kernel)
theorem ws_X5_close : Cond.selects RX5 yX5_close yX5_close ∈ nT := nT_in (i := 456) (by decide +kernel) (by decide +kernel)
set_option maxRecDepth 100000 in
theorem wc_X5_close : Cond.code yX5_close cX5_close 5 (none : Option Jvm.ClassFile.FieldType) ∈ nT := nT_in (i := 457) rfl (by decide +kernel)
theorem wl_L_82 : Cond.methodLink RL 82 yX6_given ∈ nT := nT_in (i := 458) (by decide +kernel) (by decide +kernel)
theorem wi_X6_given : Cond.instanceMethod yX6_given ∈ nT := nT_in (i := 459) (by decide +kernel) (by decide +kernel)
theorem ws_X6_given : Cond.selects RX6 yX6_given yX6_given ∈ nT := nT_in (i := 460) (by decide +kernel) (by decide +kernel)
set_option maxRecDepth 100000 in
theorem wc_X6_given : Cond.code yX6_given cX6_given 4 (some .int) ∈ nT := nT_in (i := 461) rfl (by decide +kernel)
theorem wl_L_86 : Cond.methodLink RL 86 yX6_tell ∈ nT := nT_in (i := 462) (by decide +kernel) (by decide +kernel)
theorem wi_X6_tell : Cond.instanceMethod yX6_tell ∈ nT := nT_in (i := 463) (by decide +kernel) (by decide +kernel)
theorem ws_X6_tell : Cond.selects RX6 yX6_tell yX6_tell ∈ nT := nT_in (i := 464) (by decide +kernel) (by decide +kernel)
set_option maxRecDepth 100000 in
theorem wc_X6_tell : Cond.code yX6_tell cX6_tell 4 (some .long) ∈ nT := nT_in (i := 465) rfl (by decide +kernel)
theorem wk_X6_186 : Cond.constantLong RX6 186 (-1) ∈ nT := nT_in (i := 466) (by decide +kernel) (by decide +kernel)
theorem wl_X6_195 : Cond.methodLink RX6 195 yX4_partsOf ∈ nT := nT_in (i := 467) (by decide +kernel) (by decide +kernel)
theorem wi_X4_partsOf : Cond.instanceMethod yX4_partsOf ∈ nT := nT_in (i := 468) (by decide +kernel) (by decide +kernel)
theorem ws_X4_partsOf : Cond.selects RX4 yX4_partsOf yX4_partsOf ∈ nT := nT_in (i := 469) (by decide +kernel) (by decide +kernel)
set_option maxRecDepth 100000 in
theorem wc_X4_partsOf : Cond.code yX4_partsOf cX4_partsOf 7 (some .long) ∈ nT := nT_in (i := 470) rfl (by decide +kernel)
theorem wl_L_91 : Cond.methodLink RL 91 yX6_has ∈ nT := nT_in (i := 471) (by decide +kernel) (by decide +kernel)
theorem wi_X6_has : Cond.instanceMethod yX6_has ∈ nT := nT_in (i := 472) (by decide +kernel) (by decide +kernel)
theorem ws_X6_has : Cond.selects RX6 yX6_has yX6_has ∈ nT := nT_in (i := 473) (by decide +kernel) (by decide +kernel)
set_option maxRecDepth 100000 in
theorem wc_X6_has : Cond.code yX6_has cX6_has 5 (some .int) ∈ nT := nT_in (i := 474) rfl (by decide +kernel)
theorem wl_L_95 : Cond.methodLink RL 95 yX6_draw ∈ nT := nT_in (i := 475) (by decide +kernel) (by decide +kernel)
theorem wi_X6_draw : Cond.instanceMethod yX6_draw ∈ nT := nT_in (i := 476) (by decide +kernel) (by decide +kernel)
theorem ws_X6_draw : Cond.selects RX6 yX6_draw yX6_draw ∈ nT := nT_in (i := 477) (by decide +kernel) (by decide +kernel)
set_option maxRecDepth 100000 in
theorem wc_X6_draw : Cond.code yX6_draw cX6_draw 6 (some .long) ∈ nT := nT_in (i := 478) rfl (by decide +kernel)
theorem wl_L_99 : Cond.methodLink RL 99 yX6_drawn ∈ nT := nT_in (i := 479) (by decide +kernel) (by decide +kernel)
theorem wi_X6_drawn : Cond.instanceMethod yX6_drawn ∈ nT := nT_in (i := 480) (by decide +kernel) (by decide +kernel)
theorem ws_X6_drawn : Cond.selects RX6 yX6_drawn yX6_drawn ∈ nT := nT_in (i := 481) (by decide +kernel) (by decide +kernel)
set_option maxRecDepth 100000 in
theorem wc_X6_drawn : Cond.code yX6_drawn cX6_drawn 2 (some .int) ∈ nT := nT_in (i := 482) rfl (by decide +kernel)
theorem wl_L_103 : Cond.methodLink RL 103 yX6_expect ∈ nT := nT_in (i := 483) (by decide +kernel) (by decide +kernel)
theorem wi_X6_expect : Cond.instanceMethod yX6_expect ∈ nT := nT_in (i := 484) (by decide +kernel) (by decide +kernel)
theorem ws_X6_expect : Cond.selects RX6 yX6_expect yX6_expect ∈ nT := nT_in (i := 485) (by decide +kernel) (by decide +kernel)
set_option maxRecDepth 100000 in
theorem wc_X6_expect : Cond.code yX6_expect cX6_expect 7 (some .int) ∈ nT := nT_in (i := 486) rfl (by decide +kernel)
theorem wl_X6_212 : Cond.methodLink RX6 212 yX2_add ∈ nT := nT_in (i := 487) (by decide +kernel) (by decide +kernel)
theorem wi_X2_add : Cond.instanceMethod yX2_add ∈ nT := nT_in (i := 488) (by decide +kernel) (by decide +kernel)
theorem ws_X2_add : Cond.selects RX2 yX2_add yX2_add ∈ nT := nT_in (i := 489) (by decide +kernel) (by decide +kernel)
set_option maxRecDepth 100000 in
theorem wc_X2_add : Cond.code yX2_add cX2_add 5 (some .int) ∈ nT := nT_in (i := 490) rfl (by decide +kernel)
theorem wl_L_107 : Cond.methodLink RL 107 yX6_forget ∈ nT := nT_in (i := 491) (by decide +kernel) (by decide +kernel)
theorem wi_X6_forget : Cond.instanceMethod yX6_forget ∈ nT := nT_in (i := 492) (by decide +kernel) (by decide +kernel)
theorem ws_X6_forget : Cond.selects RX6 yX6_forget yX6_forget ∈ nT := nT_in (i := 493) (by decide +kernel) (by decide +kernel)
set_option maxRecDepth 100000 in
theorem wc_X6_forget : Cond.code yX6_forget cX6_forget 3 (some .boolean) ∈ nT := nT_in (i := 494) rfl (by decide +kernel)
theorem wl_L_111 : Cond.methodLink RL 111 yX6_wanted ∈ nT := nT_in (i := 495) (by decide +kernel) (by decide +kernel)
theorem wi_X6_wanted : Cond.instanceMethod yX6_wanted ∈ nT := nT_in (i := 496) (by decide +kernel) (by decide +kernel)
theorem ws_X6_wanted : Cond.selects RX6 yX6_wanted yX6_wanted ∈ nT := nT_in (i := 497) (by decide +kernel) (by decide +kernel)
set_option maxRecDepth 100000 in
theorem wc_X6_wanted : Cond.code yX6_wanted cX6_wanted 4 (some .int) ∈ nT := nT_in (i := 498) rfl (by decide +kernel)
theorem wl_X6_214 : Cond.methodLink RX6 214 yX6_mostLacking ∈ nT := nT_in (i := 499) (by decide +kernel) (by decide +kernel)
theorem wi_X6_mostLacking : Cond.instanceMethod yX6_mostLacking ∈ nT := nT_in (i := 501) (by decide +kernel) (by decide +kernel)
set_option maxRecDepth 100000 in
theorem wc_X6_mostLacking : Cond.code yX6_mostLacking cX6_mostLacking 9 (some .int) ∈ nT := nT_in (i := 502) rfl (by decide +kernel)
theorem wl_X6_238 : Cond.methodLink RX6 238 yJ9_max_7cf53 ∈ nT := nT_in (i := 503) (by decide +kernel) (by decide +kernel)
theorem wt_J9_max_7cf53 : Cond.static yJ9_max_7cf53 ∈ nT := nT_in (i := 504) (by decide +kernel) (by decide +kernel)
set_option maxRecDepth 100000 in
theorem wc_J9_max_7cf53 : Cond.code yJ9_max_7cf53 cJ9_max_7cf53 2 (some .int) ∈ nT := nT_in (i := 505) rfl (by decide +kernel)
theorem wl_L_115 : Cond.methodLink RL 115 yX6_about ∈ nT := nT_in (i := 506) (by decide +kernel) (by decide +kernel)
theorem wi_X6_about : Cond.instanceMethod yX6_about ∈ nT := nT_in (i := 507) (by decide +kernel) (by decide +kernel)
theorem ws_X6_about : Cond.selects RX6 yX6_about yX6_about ∈ nT := nT_in (i := 508) (by decide +kernel) (by decide +kernel)
set_option maxRecDepth 100000 in
theorem wc_X6_about : Cond.code yX6_about cX6_about 4 (some .int) ∈ nT := nT_in (i := 509) rfl (by decide +kernel)
theorem wl_X6_218 : Cond.methodLink RX6 218 yX4_detail ∈ nT := nT_in (i := 510) (by decide +kernel) (by decide +kernel)
theorem wi_X4_detail : Cond.instanceMethod yX4_detail ∈ nT := nT_in (i := 511) (by decide +kernel) (by decide +kernel)
theorem ws_X4_detail : Cond.selects RX4 yX4_detail yX4_detail ∈ nT := nT_in (i := 512) (by decide +kernel) (by decide +kernel)
set_option maxRecDepth 100000 in
theorem wc_X4_detail : Cond.code yX4_detail cX4_detail 2 (some .int) ∈ nT := nT_in (i := 513) rfl (by decide +kernel)
theorem wl_X4_114 : Cond.methodLink RX4 114 yX4_goodDetail ∈ nT := nT_in (i := 514) (by decide +kernel) (by decide +kernel)
theorem wi_X4_goodDetail : Cond.instanceMethod yX4_goodDetail ∈ nT := nT_in (i := 516) (by decide +kernel) (by decide +kernel)
set_option maxRecDepth 100000 in
theorem wc_X4_goodDetail : Cond.code yX4_goodDetail cX4_goodDetail 2 (some .int) ∈ nT := nT_in (i := 517) rfl (by decide +kernel)
theorem wl_X4_117 : Cond.methodLink RX4 117 yX3_isGood ∈ nT := nT_in (i := 518) (by decide +kernel) (by decide +kernel)
theorem wl_X6_221 : Cond.methodLink RX6 221 yX1_detail ∈ nT := nT_in (i := 519) (by decide +kernel) (by decide +kernel)
theorem wi_X1_detail : Cond.instanceMethod yX1_detail ∈ nT := nT_in (i := 520) (by decide +kernel) (by decide +kernel)
theorem ws_X1_detail : Cond.selects RX1 yX1_detail yX1_detail ∈ nT := nT_in (i := 521) (by decide +kernel) (by decide +kernel)
set_option maxRecDepth 100000 in
theorem wc_X1_detail : Cond.code yX1_detail cX1_detail 2 (some .int) ∈ nT := nT_in (i := 522) rfl (by decide +kernel)
theorem wl_X1_63 : Cond.methodLink RX1 63 yX1_isCoin ∈ nT := nT_in (i := 523) (by decide +kernel) (by decide +kernel)
theorem wl_L_119 : Cond.methodLink RL 119 yX6_image ∈ nT := nT_in (i := 524) (by decide +kernel) (by decide +kernel)
theorem wi_X6_image : Cond.instanceMethod yX6_image ∈ nT := nT_in (i := 525) (by decide +kernel) (by decide +kernel)
theorem ws_X6_image : Cond.selects RX6 yX6_image yX6_image ∈ nT := nT_in (i := 526) (by decide +kernel) (by decide +kernel)
set_option maxRecDepth 100000 in
theorem wc_X6_image : Cond.code yX6_image cX6_image 2 (some .boolean) ∈ nT := nT_in (i := 527) rfl (by decide +kernel)
theorem wl_X6_222 : Cond.methodLink RX6 222 yX4_copyFrom ∈ nT := nT_in (i := 528) (by decide +kernel) (by decide +kernel)
theorem wi_X4_copyFrom : Cond.instanceMethod yX4_copyFrom ∈ nT := nT_in (i := 529) (by decide +kernel) (by decide +kernel)
theorem ws_X4_copyFrom : Cond.selects RX4 yX4_copyFrom yX4_copyFrom ∈ nT := nT_in (i := 530) (by decide +kernel) (by decide +kernel)
set_option maxRecDepth 100000 in
theorem wc_X4_copyFrom : Cond.code yX4_copyFrom cX4_copyFrom 3 (none : Option Jvm.ClassFile.FieldType) ∈ nT := nT_in (i := 531) rfl (by decide +kernel)
theorem wl_X4_52 : Cond.methodLink RX4 52 yX1_copyFrom ∈ nT := nT_in (i := 532) (by decide +kernel) (by decide +kernel)
theorem wi_X1_copyFrom : Cond.instanceMethod yX1_copyFrom ∈ nT := nT_in (i := 533) (by decide +kernel) (by decide +kernel)
theorem ws_X1_copyFrom : Cond.selects RX1 yX1_copyFrom yX1_copyFrom ∈ nT := nT_in (i := 534) (by decide +kernel) (by decide +kernel)
set_option maxRecDepth 100000 in
theorem wc_X1_copyFrom : Cond.code yX1_copyFrom cX1_copyFrom 2 (none : Option Jvm.ClassFile.FieldType) ∈ nT := nT_in (i := 535) rfl (by decide +kernel)
theorem wl_X1_31 : Cond.methodLink RX1 31 arraycopyName ∈ nT := nT_in (i := 536) (by decide +kernel) (by decide +kernel)
theorem wt_arraycopyName : Cond.static arraycopyName ∈ nT := nT_in (i := 537) (by decide +kernel) (by decide +kernel)
theorem wz_arraycopyName : Cond.native arraycopyName ∈ nT := nT_in (i := 538) (by decide +kernel) (by decide +kernel)
theorem wl_X4_56 : Cond.methodLink RX4 56 yX3_copyFrom ∈ nT := nT_in (i := 539) (by decide +kernel) (by decide +kernel)
theorem wi_X3_copyFrom : Cond.instanceMethod yX3_copyFrom ∈ nT := nT_in (i := 540) (by decide +kernel) (by decide +kernel)
theorem ws_X3_copyFrom : Cond.selects RX3 yX3_copyFrom yX3_copyFrom ∈ nT := nT_in (i := 541) (by decide +kernel) (by decide +kernel)
set_option maxRecDepth 100000 in
theorem wc_X3_copyFrom : Cond.code yX3_copyFrom cX3_copyFrom 2 (none : Option Jvm.ClassFile.FieldType) ∈ nT := nT_in (i := 542) rfl (by decide +kernel)
theorem wl_X3_22 : Cond.methodLink RX3 22 arraycopyName ∈ nT := nT_in (i := 543) (by decide +kernel) (by decide +kernel)
theorem wl_X4_59 : Cond.methodLink RX4 59 yX5_copyFrom ∈ nT := nT_in (i := 544) (by decide +kernel) (by decide +kernel)
theorem wi_X5_copyFrom : Cond.instanceMethod yX5_copyFrom ∈ nT := nT_in (i := 545) (by decide +kernel) (by decide +kernel)
theorem ws_X5_copyFrom : Cond.selects RX5 yX5_copyFrom yX5_copyFrom ∈ nT := nT_in (i := 546) (by decide +kernel) (by decide +kernel)
set_option maxRecDepth 100000 in
theorem wc_X5_copyFrom : Cond.code yX5_copyFrom cX5_copyFrom 2 (none : Option Jvm.ClassFile.FieldType) ∈ nT := nT_in (i := 547) rfl (by decide +kernel)
theorem wl_X5_39 : Cond.methodLink RX5 39 arraycopyName ∈ nT := nT_in (i := 548) (by decide +kernel) (by decide +kernel)
theorem wl_X5_45 : Cond.methodLink RX5 45 yX2_copyFrom ∈ nT := nT_in (i := 549) (by decide +kernel) (by decide +kernel)
theorem wi_X2_copyFrom : Cond.instanceMethod yX2_copyFrom ∈ nT := nT_in (i := 550) (by decide +kernel) (by decide +kernel)
theorem ws_X2_copyFrom : Cond.selects RX2 yX2_copyFrom yX2_copyFrom ∈ nT := nT_in (i := 551) (by decide +kernel) (by decide +kernel)
set_option maxRecDepth 100000 in
theorem wc_X2_copyFrom : Cond.code yX2_copyFrom cX2_copyFrom 2 (none : Option Jvm.ClassFile.FieldType) ∈ nT := nT_in (i := 552) rfl (by decide +kernel)
theorem wl_X2_28 : Cond.methodLink RX2 28 arraycopyName ∈ nT := nT_in (i := 553) (by decide +kernel) (by decide +kernel)
theorem wl_X4_62 : Cond.methodLink RX4 62 arraycopyName ∈ nT := nT_in (i := 554) (by decide +kernel) (by decide +kernel)
theorem wl_L_123 : Cond.methodLink RL 123 yX6_again ∈ nT := nT_in (i := 555) (by decide +kernel) (by decide +kernel)
theorem wi_X6_again : Cond.instanceMethod yX6_again ∈ nT := nT_in (i := 556) (by decide +kernel) (by decide +kernel)
theorem ws_X6_again : Cond.selects RX6 yX6_again yX6_again ∈ nT := nT_in (i := 557) (by decide +kernel) (by decide +kernel)
set_option maxRecDepth 100000 in
theorem wc_X6_again : Cond.code yX6_again cX6_again 2 (some .boolean) ∈ nT := nT_in (i := 558) rfl (by decide +kernel)
theorem wq_L_10 : Cond.classLink RL 10 RX7 ∈ nT := nT_in (i := 559) (by decide +kernel) (by decide +kernel)
theorem wo_X7 : Cond.instantiable RX7 27 ∈ nT := nT_in (i := 560) (by decide +kernel) (by decide +kernel)
theorem wl_L_12 : Cond.methodLink RL 12 yX7_init ∈ nT := nT_in (i := 561) (by decide +kernel) (by decide +kernel)
theorem wi_X7_init : Cond.instanceMethod yX7_init ∈ nT := nT_in (i := 562) (by decide +kernel) (by decide +kernel)
set_option maxRecDepth 100000 in
theorem wc_X7_init : Cond.code yX7_init cX7_init 1 (none : Option Jvm.ClassFile.FieldType) ∈ nT := nT_in (i := 563) rfl (by decide +kernel)
theorem wl_X7_1 : Cond.methodLink RX7 1 objectInit ∈ nT := nT_in (i := 564) (by decide +kernel) (by decide +kernel)
theorem wf_X7_90 : Cond.fieldLink RX7 90 "NewCoinsModel" "code" "I" ∈ nT := nT_in (i := 565) (by decide +kernel) (by decide +kernel)
theorem wf_X7_7 : Cond.fieldLink RX7 7 "NewCoinsModel" "coins" "[I" ∈ nT := nT_in (i := 566) (by decide +kernel) (by decide +kernel)
theorem wf_X7_13 : Cond.fieldLink RX7 13 "NewCoinsModel" "value" "[I" ∈ nT := nT_in (i := 567) (by decide +kernel) (by decide +kernel)
theorem wf_X7_16 : Cond.fieldLink RX7 16 "NewCoinsModel" "rates" "[I" ∈ nT := nT_in (i := 568) (by decide +kernel) (by decide +kernel)
theorem wf_X7_19 : Cond.fieldLink RX7 19 "NewCoinsModel" "sales" "[I" ∈ nT := nT_in (i := 569) (by decide +kernel) (by decide +kernel)
theorem wf_X7_22 : Cond.fieldLink RX7 22 "NewCoinsModel" "goods" "[I" ∈ nT := nT_in (i := 570) (by decide +kernel) (by decide +kernel)
theorem wf_X7_25 : Cond.fieldLink RX7 25 "NewCoinsModel" "prices" "[I" ∈ nT := nT_in (i := 571) (by decide +kernel) (by decide +kernel)
theorem wf_X7_28 : Cond.fieldLink RX7 28 "NewCoinsModel" "times" "[I" ∈ nT := nT_in (i := 572) (by decide +kernel) (by decide +kernel)
theorem wf_X7_31 : Cond.fieldLink RX7 31 "NewCoinsModel" "steps" "[I" ∈ nT := nT_in (i := 573) (by decide +kernel) (by decide +kernel)
theorem wf_X7_34 : Cond.fieldLink RX7 34 "NewCoinsModel" "tills" "[I" ∈ nT := nT_in (i := 574) (by decide +kernel) (by decide +kernel)
theorem wf_X7_37 : Cond.fieldLink RX7 37 "NewCoinsModel" "tillSales" "[I" ∈ nT := nT_in (i := 575) (by decide +kernel) (by decide +kernel)
theorem wf_X7_40 : Cond.fieldLink RX7 40 "NewCoinsModel" "scraps" "[J" ∈ nT := nT_in (i := 576) (by decide +kernel) (by decide +kernel)
theorem wf_X7_44 : Cond.fieldLink RX7 44 "NewCoinsModel" "paid" "[J" ∈ nT := nT_in (i := 577) (by decide +kernel) (by decide +kernel)
theorem wf_X7_47 : Cond.fieldLink RX7 47 "NewCoinsModel" "expected" "[I" ∈ nT := nT_in (i := 578) (by decide +kernel) (by decide +kernel)
theorem wf_X7_50 : Cond.fieldLink RX7 50 "NewCoinsModel" "has" "[I" ∈ nT := nT_in (i := 579) (by decide +kernel) (by decide +kernel)
theorem wf_X7_53 : Cond.fieldLink RX7 53 "NewCoinsModel" "gave" "[I" ∈ nT := nT_in (i := 580) (by decide +kernel) (by decide +kernel)
theorem wf_X7_56 : Cond.fieldLink RX7 56 "NewCoinsModel" "drawnIn" "[I" ∈ nT := nT_in (i := 581) (by decide +kernel) (by decide +kernel)
theorem wf_X7_59 : Cond.fieldLink RX7 59 "NewCoinsModel" "expects" "[I" ∈ nT := nT_in (i := 582) (by decide +kernel) (by decide +kernel)
theorem wf_X7_62 : Cond.fieldLink RX7 62 "NewCoinsModel" "one" "[J" ∈ nT := nT_in (i := 583) (by decide +kernel) (by decide +kernel)
theorem wf_X7_65 : Cond.fieldLink RX7 65 "NewCoinsModel" "by" "[I" ∈ nT := nT_in (i := 584) (by decide +kernel) (by decide +kernel)
theorem wf_X7_68 : Cond.fieldLink RX7 68 "NewCoinsModel" "few" "[I" ∈ nT := nT_in (i := 585) (by decide +kernel) (by decide +kernel)
theorem wf_X7_71 : Cond.fieldLink RX7 71 "NewCoinsModel" "take" "[I" ∈ nT := nT_in (i := 586) (by decide +kernel) (by decide +kernel)
theorem wf_X7_74 : Cond.fieldLink RX7 74 "NewCoinsModel" "bound" "[I" ∈ nT := nT_in (i := 587) (by decide +kernel) (by decide +kernel)
theorem wf_X7_77 : Cond.fieldLink RX7 77 "NewCoinsModel" "least" "[I" ∈ nT := nT_in (i := 588) (by decide +kernel) (by decide +kernel)
theorem wf_X7_80 : Cond.fieldLink RX7 80 "NewCoinsModel" "pool" "[I" ∈ nT := nT_in (i := 589) (by decide +kernel) (by decide +kernel)
theorem wf_X7_83 : Cond.fieldLink RX7 83 "NewCoinsModel" "want" "[I" ∈ nT := nT_in (i := 590) (by decide +kernel) (by decide +kernel)
theorem wf_X7_86 : Cond.fieldLink RX7 86 "NewCoinsModel" "kept" "[Z" ∈ nT := nT_in (i := 591) (by decide +kernel) (by decide +kernel)
theorem wy_X7_code : Cond.lays "NewCoinsModel" "NewCoinsModel" "code" "I" ∈ nT := nT_in (i := 592) (by decide +kernel) (by decide +kernel)
theorem wy_X7_coins : Cond.laysFinal "NewCoinsModel" "NewCoinsModel" "coins" "[I" ∈ nT := nT_in (i := 594) (by decide +kernel) (by decide +kernel)
theorem wy_X7_value : Cond.laysFinal "NewCoinsModel" "NewCoinsModel" "value" "[I" ∈ nT := nT_in (i := 596) (by decide +kernel) (by decide +kernel)
theorem wy_X7_rates : Cond.laysFinal "NewCoinsModel" "NewCoinsModel" "rates" "[I" ∈ nT := nT_in (i := 598) (by decide +kernel) (by decide +kernel)
theorem wy_X7_sales : Cond.laysFinal "NewCoinsModel" "NewCoinsModel" "sales" "[I" ∈ nT := nT_in (i := 600) (by decide +kernel) (by decide +kernel)
theorem wy_X7_goods : Cond.laysFinal "NewCoinsModel" "NewCoinsModel" "goods" "[I" ∈ nT := nT_in (i := 602) (by decide +kernel) (by decide +kernel)
theorem wy_X7_prices : Cond.laysFinal "NewCoinsModel" "NewCoinsModel" "prices" "[I" ∈ nT := nT_in (i := 604) (by decide +kernel) (by decide +kernel)
theorem wy_X7_times : Cond.laysFinal "NewCoinsModel" "NewCoinsModel" "times" "[I" ∈ nT := nT_in (i := 606) (by decide +kernel) (by decide +kernel)
theorem wy_X7_steps : Cond.laysFinal "NewCoinsModel" "NewCoinsModel" "steps" "[I" ∈ nT := nT_in (i := 608) (by decide +kernel) (by decide +kernel)
theorem wy_X7_tills : Cond.laysFinal "NewCoinsModel" "NewCoinsModel" "tills" "[I" ∈ nT := nT_in (i := 610) (by decide +kernel) (by decide +kernel)
theorem wy_X7_tillSales : Cond.laysFinal "NewCoinsModel" "NewCoinsModel" "tillSales" "[I" ∈ nT := nT_in (i := 612) (by decide +kernel) (by decide +kernel)
theorem wy_X7_scraps : Cond.laysFinal "NewCoinsModel" "NewCoinsModel" "scraps" "[J" ∈ nT := nT_in (i := 614) (by decide +kernel) (by decide +kernel)
theorem wy_X7_paid : Cond.laysFinal "NewCoinsModel" "NewCoinsModel" "paid" "[J" ∈ nT := nT_in (i := 616) (by decide +kernel) (by decide +kernel)
theorem wy_X7_expected : Cond.laysFinal "NewCoinsModel" "NewCoinsModel" "expected" "[I" ∈ nT := nT_in (i := 618) (by decide +kernel) (by decide +kernel)
theorem wy_X7_has : Cond.laysFinal "NewCoinsModel" "NewCoinsModel" "has" "[I" ∈ nT := nT_in (i := 620) (by decide +kernel) (by decide +kernel)
theorem wy_X7_gave : Cond.laysFinal "NewCoinsModel" "NewCoinsModel" "gave" "[I" ∈ nT := nT_in (i := 622) (by decide +kernel) (by decide +kernel)
theorem wy_X7_drawnIn : Cond.laysFinal "NewCoinsModel" "NewCoinsModel" "drawnIn" "[I" ∈ nT := nT_in (i := 624) (by decide +kernel) (by decide +kernel)
theorem wy_X7_expects : Cond.laysFinal "NewCoinsModel" "NewCoinsModel" "expects" "[I" ∈ nT := nT_in (i := 626) (by decide +kernel) (by decide +kernel)
theorem wy_X7_one : Cond.laysFinal "NewCoinsModel" "NewCoinsModel" "one" "[J" ∈ nT := nT_in (i := 628) (by decide +kernel) (by decide +kernel)
theorem wy_X7_by : Cond.laysFinal "NewCoinsModel" "NewCoinsModel" "by" "[I" ∈ nT := nT_in (i := 630) (by decide +kernel) (by decide +kernel)
theorem wy_X7_few : Cond.laysFinal "NewCoinsModel" "NewCoinsModel" "few" "[I" ∈ nT := nT_in (i := 632) (by decide +kernel) (by decide +kernel)
theorem wy_X7_take : Cond.laysFinal "NewCoinsModel" "NewCoinsModel" "take" "[I" ∈ nT := nT_in (i := 634) (by decide +kernel) (by decide +kernel)
theorem wy_X7_bound : Cond.laysFinal "NewCoinsModel" "NewCoinsModel" "bound" "[I" ∈ nT := nT_in (i := 636) (by decide +kernel) (by decide +kernel)
theorem wy_X7_least : Cond.laysFinal "NewCoinsModel" "NewCoinsModel" "least" "[I" ∈ nT := nT_in (i := 638) (by decide +kernel) (by decide +kernel)
theorem wy_X7_pool : Cond.laysFinal "NewCoinsModel" "NewCoinsModel" "pool" "[I" ∈ nT := nT_in (i := 640) (by decide +kernel) (by decide +kernel)
theorem wy_X7_want : Cond.laysFinal "NewCoinsModel" "NewCoinsModel" "want" "[I" ∈ nT := nT_in (i := 642) (by decide +kernel) (by decide +kernel)
theorem wy_X7_kept : Cond.laysFinal "NewCoinsModel" "NewCoinsModel" "kept" "[Z" ∈ nT := nT_in (i := 644) (by decide +kernel) (by decide +kernel)
theorem wl_L_17 : Cond.methodLink RL 17 yX7_coin ∈ nT := nT_in (i := 647) (by decide +kernel) (by decide +kernel)
theorem wi_X7_coin : Cond.instanceMethod yX7_coin ∈ nT := nT_in (i := 648) (by decide +kernel) (by decide +kernel)
theorem ws_X7_coin : Cond.selects RX7 yX7_coin yX7_coin ∈ nT := nT_in (i := 649) (by decide +kernel) (by decide +kernel)
set_option maxRecDepth 100000 in
theorem wc_X7_coin : Cond.code yX7_coin cX7_coin 4 (some .int) ∈ nT := nT_in (i := 650) rfl (by decide +kernel)
theorem wl_X7_98 : Cond.methodLink RX7 98 yX7_in ∈ nT := nT_in (i := 651) (by decide +kernel) (by decide +kernel)
theorem wt_X7_in : Cond.static yX7_in ∈ nT := nT_in (i := 652) (by decide +kernel) (by decide +kernel)
set_option maxRecDepth 100000 in
theorem wc_X7_in : Cond.code yX7_in cX7_in 3 (some .boolean) ∈ nT := nT_in (i := 653) rfl (by decide +kernel)
theorem wl_L_22 : Cond.methodLink RL 22 yX7_rate ∈ nT := nT_in (i := 654) (by decide +kernel) (by decide +kernel)
theorem wi_X7_rate : Cond.instanceMethod yX7_rate ∈ nT := nT_in (i := 655) (by decide +kernel) (by decide +kernel)
theorem ws_X7_rate : Cond.selects RX7 yX7_rate yX7_rate ∈ nT := nT_in (i := 656) (by decide +kernel) (by decide +kernel)
set_option maxRecDepth 100000 in
theorem wc_X7_rate : Cond.code yX7_rate cX7_rate 3 (some .boolean) ∈ nT := nT_in (i := 657) rfl (by decide +kernel)
theorem wl_L_26 : Cond.methodLink RL 26 yX7_good ∈ nT := nT_in (i := 658) (by decide +kernel) (by decide +kernel)
theorem wi_X7_good : Cond.instanceMethod yX7_good ∈ nT := nT_in (i := 659) (by decide +kernel) (by decide +kernel)
theorem ws_X7_good : Cond.selects RX7 yX7_good yX7_good ∈ nT := nT_in (i := 660) (by decide +kernel) (by decide +kernel)
set_option maxRecDepth 100000 in
theorem wc_X7_good : Cond.code yX7_good cX7_good 3 (some .int) ∈ nT := nT_in (i := 661) rfl (by decide +kernel)
theorem wl_L_30 : Cond.methodLink RL 30 yX7_sold ∈ nT := nT_in (i := 662) (by decide +kernel) (by decide +kernel)
theorem wi_X7_sold : Cond.instanceMethod yX7_sold ∈ nT := nT_in (i := 663) (by decide +kernel) (by decide +kernel)
theorem ws_X7_sold : Cond.selects RX7 yX7_sold yX7_sold ∈ nT := nT_in (i := 664) (by decide +kernel) (by decide +kernel)
set_option maxRecDepth 100000 in
theorem wc_X7_sold : Cond.code yX7_sold cX7_sold 3 (some .boolean) ∈ nT := nT_in (i := 665) rfl (by decide +kernel)
theorem wl_X7_102 : Cond.methodLink RX7 102 yX7_isGood ∈ nT := nT_in (i := 666) (by decide +kernel) (by decide +kernel)
theorem wi_X7_isGood : Cond.instanceMethod yX7_isGood ∈ nT := nT_in (i := 668) (by decide +kernel) (by decide +kernel)
set_option maxRecDepth 100000 in
theorem wc_X7_isGood : Cond.code yX7_isGood cX7_isGood 2 (some .boolean) ∈ nT := nT_in (i := 669) rfl (by decide +kernel)
theorem wl_L_35 : Cond.methodLink RL 35 yX7_step ∈ nT := nT_in (i := 670) (by decide +kernel) (by decide +kernel)
theorem wi_X7_step : Cond.instanceMethod yX7_step ∈ nT := nT_in (i := 671) (by decide +kernel) (by decide +kernel)
theorem ws_X7_step : Cond.selects RX7 yX7_step yX7_step ∈ nT := nT_in (i := 672) (by decide +kernel) (by decide +kernel)
set_option maxRecDepth 100000 in
theorem wc_X7_step : Cond.code yX7_step cX7_step 2 (some .boolean) ∈ nT := nT_in (i := 673) rfl (by decide +kernel)
theorem wl_L_39 : Cond.methodLink RL 39 yX7_price ∈ nT := nT_in (i := 674) (by decide +kernel) (by decide +kernel)
theorem wi_X7_price : Cond.instanceMethod yX7_price ∈ nT := nT_in (i := 675) (by decide +kernel) (by decide +kernel)
theorem ws_X7_price : Cond.selects RX7 yX7_price yX7_price ∈ nT := nT_in (i := 676) (by decide +kernel) (by decide +kernel)
set_option maxRecDepth 100000 in
theorem wc_X7_price : Cond.code yX7_price cX7_price 3 (some .int) ∈ nT := nT_in (i := 677) rfl (by decide +kernel)
theorem wl_X7_106 : Cond.methodLink RX7 106 yX7_priceOf ∈ nT := nT_in (i := 678) (by decide +kernel) (by decide +kernel)
theorem wi_X7_priceOf : Cond.instanceMethod yX7_priceOf ∈ nT := nT_in (i := 680) (by decide +kernel) (by decide +kernel)
set_option maxRecDepth 100000 in
theorem wc_X7_priceOf : Cond.code yX7_priceOf cX7_priceOf 9 (some .int) ∈ nT := nT_in (i := 681) rfl (by decide +kernel)
theorem wl_L_44 : Cond.methodLink RL 44 yX7_gain ∈ nT := nT_in (i := 682) (by decide +kernel) (by decide +kernel)
theorem wi_X7_gain : Cond.instanceMethod yX7_gain ∈ nT := nT_in (i := 683) (by decide +kernel) (by decide +kernel)
theorem ws_X7_gain : Cond.selects RX7 yX7_gain yX7_gain ∈ nT := nT_in (i := 684) (by decide +kernel) (by decide +kernel)
set_option maxRecDepth 100000 in
theorem wc_X7_gain : Cond.code yX7_gain cX7_gain 5 (some .long) ∈ nT := nT_in (i := 685) rfl (by decide +kernel)
theorem wl_X7_110 : Cond.methodLink RX7 110 yX7_gainOf ∈ nT := nT_in (i := 686) (by decide +kernel) (by decide +kernel)
theorem wi_X7_gainOf : Cond.instanceMethod yX7_gainOf ∈ nT := nT_in (i := 688) (by decide +kernel) (by decide +kernel)
set_option maxRecDepth 100000 in
theorem wc_X7_gainOf : Cond.code yX7_gainOf cX7_gainOf 3 (some .long) ∈ nT := nT_in (i := 689) rfl (by decide +kernel)
theorem wl_L_49 : Cond.methodLink RL 49 yX7_fairest ∈ nT := nT_in (i := 690) (by decide +kernel) (by decide +kernel)
theorem wi_X7_fairest : Cond.instanceMethod yX7_fairest ∈ nT := nT_in (i := 691) (by decide +kernel) (by decide +kernel)
theorem ws_X7_fairest : Cond.selects RX7 yX7_fairest yX7_fairest ∈ nT := nT_in (i := 692) (by decide +kernel) (by decide +kernel)
set_option maxRecDepth 100000 in
theorem wc_X7_fairest : Cond.code yX7_fairest cX7_fairest 8 (some .int) ∈ nT := nT_in (i := 693) rfl (by decide +kernel)
theorem wk_X7_114 : Cond.constantLong RX7 114 (-1) ∈ nT := nT_in (i := 694) (by decide +kernel) (by decide +kernel)
theorem wl_L_53 : Cond.methodLink RL 53 yX7_gains ∈ nT := nT_in (i := 695) (by decide +kernel) (by decide +kernel)
theorem wi_X7_gains : Cond.instanceMethod yX7_gains ∈ nT := nT_in (i := 696) (by decide +kernel) (by decide +kernel)
theorem ws_X7_gains : Cond.selects RX7 yX7_gains yX7_gains ∈ nT := nT_in (i := 697) (by decide +kernel) (by decide +kernel)
set_option maxRecDepth 100000 in
theorem wc_X7_gains : Cond.code yX7_gains cX7_gains 5 (some .long) ∈ nT := nT_in (i := 698) rfl (by decide +kernel)
theorem wl_L_58 : Cond.methodLink RL 58 yX7_fewest ∈ nT := nT_in (i := 699) (by decide +kernel) (by decide +kernel)
theorem wi_X7_fewest : Cond.instanceMethod yX7_fewest ∈ nT := nT_in (i := 700) (by decide +kernel) (by decide +kernel)
theorem ws_X7_fewest : Cond.selects RX7 yX7_fewest yX7_fewest ∈ nT := nT_in (i := 701) (by decide +kernel) (by decide +kernel)
set_option maxRecDepth 100000 in
theorem wc_X7_fewest : Cond.code yX7_fewest cX7_fewest 5 (some .int) ∈ nT := nT_in (i := 702) rfl (by decide +kernel)
theorem wl_X7_121 : Cond.methodLink RX7 121 yX7_isCoin ∈ nT := nT_in (i := 703) (by decide +kernel) (by decide +kernel)
theorem wi_X7_isCoin : Cond.instanceMethod yX7_isCoin ∈ nT := nT_in (i := 705) (by decide +kernel) (by decide +kernel)
set_option maxRecDepth 100000 in
theorem wc_X7_isCoin : Cond.code yX7_isCoin cX7_isCoin 3 (some .boolean) ∈ nT := nT_in (i := 706) rfl (by decide +kernel)
theorem wl_X7_125 : Cond.methodLink RX7 125 yX7_noBounds ∈ nT := nT_in (i := 707) (by decide +kernel) (by decide +kernel)
theorem wi_X7_noBounds : Cond.instanceMethod yX7_noBounds ∈ nT := nT_in (i := 709) (by decide +kernel) (by decide +kernel)
set_option maxRecDepth 100000 in
theorem wc_X7_noBounds : Cond.code yX7_noBounds cX7_noBounds 2 (none : Option Jvm.ClassFile.FieldType) ∈ nT := nT_in (i := 710) rfl (by decide +kernel)
theorem wl_X7_128 : Cond.methodLink RX7 128 yX7_find ∈ nT := nT_in (i := 711) (by decide +kernel) (by decide +kernel)
theorem wi_X7_find : Cond.instanceMethod yX7_find ∈ nT := nT_in (i := 713) (by decide +kernel) (by decide +kernel)
set_option maxRecDepth 100000 in
theorem wc_X7_find : Cond.code yX7_find cX7_find 11 (some .int) ∈ nT := nT_in (i := 714) rfl (by decide +kernel)
theorem wl_X7_116 : Cond.methodLink RX7 116 yX7_sortCoins ∈ nT := nT_in (i := 715) (by decide +kernel) (by decide +kernel)
theorem wi_X7_sortCoins : Cond.instanceMethod yX7_sortCoins ∈ nT := nT_in (i := 717) (by decide +kernel) (by decide +kernel)
set_option maxRecDepth 100000 in
theorem wc_X7_sortCoins : Cond.code yX7_sortCoins cX7_sortCoins 4 (none : Option Jvm.ClassFile.FieldType) ∈ nT := nT_in (i := 718) rfl (by decide +kernel)
theorem wk_X7_120 : Cond.constant RX7 120 (1000000) ∈ nT := nT_in (i := 719) (by decide +kernel) (by decide +kernel)
theorem wl_L_62 : Cond.methodLink RL 62 yX7_greedy ∈ nT := nT_in (i := 720) (by decide +kernel) (by decide +kernel)
theorem wi_X7_greedy : Cond.instanceMethod yX7_greedy ∈ nT := nT_in (i := 721) (by decide +kernel) (by decide +kernel)
theorem ws_X7_greedy : Cond.selects RX7 yX7_greedy yX7_greedy ∈ nT := nT_in (i := 722) (by decide +kernel) (by decide +kernel)
set_option maxRecDepth 100000 in
theorem wc_X7_greedy : Cond.code yX7_greedy cX7_greedy 3 (some .int) ∈ nT := nT_in (i := 723) rfl (by decide +kernel)
theorem wl_X7_131 : Cond.methodLink RX7 131 yX7_greedyOf ∈ nT := nT_in (i := 724) (by decide +kernel) (by decide +kernel)
theorem wi_X7_greedyOf : Cond.instanceMethod yX7_greedyOf ∈ nT := nT_in (i := 726) (by decide +kernel) (by decide +kernel)
set_option maxRecDepth 100000 in
theorem wc_X7_greedyOf : Cond.code yX7_greedyOf cX7_greedyOf 7 (some .int) ∈ nT := nT_in (i := 727) rfl (by decide +kernel)
theorem wl_L_67 : Cond.methodLink RL 67 yX7_odd ∈ nT := nT_in (i := 728) (by decide +kernel) (by decide +kernel)
theorem wi_X7_odd : Cond.instanceMethod yX7_odd ∈ nT := nT_in (i := 729) (by decide +kernel) (by decide +kernel)
theorem ws_X7_odd : Cond.selects RX7 yX7_odd yX7_odd ∈ nT := nT_in (i := 730) (by decide +kernel) (by decide +kernel)
set_option maxRecDepth 100000 in
theorem wc_X7_odd : Cond.code yX7_odd cX7_odd 5 (some .int) ∈ nT := nT_in (i := 731) rfl (by decide +kernel)
theorem wl_L_71 : Cond.methodLink RL 71 yX7_till ∈ nT := nT_in (i := 732) (by decide +kernel) (by decide +kernel)
theorem wi_X7_till : Cond.instanceMethod yX7_till ∈ nT := nT_in (i := 733) (by decide +kernel) (by decide +kernel)
theorem ws_X7_till : Cond.selects RX7 yX7_till yX7_till ∈ nT := nT_in (i := 734) (by decide +kernel) (by decide +kernel)
set_option maxRecDepth 100000 in
theorem wc_X7_till : Cond.code yX7_till cX7_till 3 (some .int) ∈ nT := nT_in (i := 735) rfl (by decide +kernel)
theorem wl_X7_134 : Cond.methodLink RX7 134 yX7_cell ∈ nT := nT_in (i := 736) (by decide +kernel) (by decide +kernel)
theorem wt_X7_cell : Cond.static yX7_cell ∈ nT := nT_in (i := 737) (by decide +kernel) (by decide +kernel)
set_option maxRecDepth 100000 in
theorem wc_X7_cell : Cond.code yX7_cell cX7_cell 3 (some .int) ∈ nT := nT_in (i := 738) rfl (by decide +kernel)
theorem wl_L_76 : Cond.methodLink RL 76 yX7_put ∈ nT := nT_in (i := 739) (by decide +kernel) (by decide +kernel)
theorem wi_X7_put : Cond.instanceMethod yX7_put ∈ nT := nT_in (i := 740) (by decide +kernel) (by decide +kernel)
theorem ws_X7_put : Cond.selects RX7 yX7_put yX7_put ∈ nT := nT_in (i := 741) (by decide +kernel) (by decide +kernel)
set_option maxRecDepth 100000 in
theorem wc_X7_put : Cond.code yX7_put cX7_put 6 (some .int) ∈ nT := nT_in (i := 742) rfl (by decide +kernel)
theorem wl_X7_138 : Cond.methodLink RX7 138 yX7_isTill ∈ nT := nT_in (i := 743) (by decide +kernel) (by decide +kernel)
theorem wi_X7_isTill : Cond.instanceMethod yX7_isTill ∈ nT := nT_in (i := 745) (by decide +kernel) (by decide +kernel)
set_option maxRecDepth 100000 in
theorem wc_X7_isTill : Cond.code yX7_isTill cX7_isTill 2 (some .boolean) ∈ nT := nT_in (i := 746) rfl (by decide +kernel)
theorem wl_L_81 : Cond.methodLink RL 81 yX7_sale ∈ nT := nT_in (i := 747) (by decide +kernel) (by decide +kernel)
theorem wi_X7_sale : Cond.instanceMethod yX7_sale ∈ nT := nT_in (i := 748) (by decide +kernel) (by decide +kernel)
theorem ws_X7_sale : Cond.selects RX7 yX7_sale yX7_sale ∈ nT := nT_in (i := 749) (by decide +kernel) (by decide +kernel)
set_option maxRecDepth 100000 in
theorem wc_X7_sale : Cond.code yX7_sale cX7_sale 11 (some .int) ∈ nT := nT_in (i := 750) rfl (by decide +kernel)
theorem wl_X7_141 : Cond.methodLink RX7 141 yX7_isSale ∈ nT := nT_in (i := 751) (by decide +kernel) (by decide +kernel)
theorem wi_X7_isSale : Cond.instanceMethod yX7_isSale ∈ nT := nT_in (i := 753) (by decide +kernel) (by decide +kernel)
set_option maxRecDepth 100000 in
theorem wc_X7_isSale : Cond.code yX7_isSale cX7_isSale 6 (some .boolean) ∈ nT := nT_in (i := 754) rfl (by decide +kernel)
theorem wl_X7_145 : Cond.methodLink RX7 145 yX7_over ∈ nT := nT_in (i := 755) (by decide +kernel) (by decide +kernel)
theorem wi_X7_over : Cond.instanceMethod yX7_over ∈ nT := nT_in (i := 757) (by decide +kernel) (by decide +kernel)
set_option maxRecDepth 100000 in
theorem wc_X7_over : Cond.code yX7_over cX7_over 5 (some .int) ∈ nT := nT_in (i := 758) rfl (by decide +kernel)
theorem wl_L_85 : Cond.methodLink RL 85 yX7_given ∈ nT := nT_in (i := 759) (by decide +kernel) (by decide +kernel)
theorem wi_X7_given : Cond.instanceMethod yX7_given ∈ nT := nT_in (i := 760) (by decide +kernel) (by decide +kernel)
theorem ws_X7_given : Cond.selects RX7 yX7_given yX7_given ∈ nT := nT_in (i := 761) (by decide +kernel) (by decide +kernel)
set_option maxRecDepth 100000 in
theorem wc_X7_given : Cond.code yX7_given cX7_given 3 (some .int) ∈ nT := nT_in (i := 762) rfl (by decide +kernel)
theorem wl_L_90 : Cond.methodLink RL 90 yX7_tell ∈ nT := nT_in (i := 763) (by decide +kernel) (by decide +kernel)
theorem wi_X7_tell : Cond.instanceMethod yX7_tell ∈ nT := nT_in (i := 764) (by decide +kernel) (by decide +kernel)
theorem ws_X7_tell : Cond.selects RX7 yX7_tell yX7_tell ∈ nT := nT_in (i := 765) (by decide +kernel) (by decide +kernel)
set_option maxRecDepth 100000 in
theorem wc_X7_tell : Cond.code yX7_tell cX7_tell 3 (some .long) ∈ nT := nT_in (i := 766) rfl (by decide +kernel)
theorem wl_X7_149 : Cond.methodLink RX7 149 yX7_parts ∈ nT := nT_in (i := 767) (by decide +kernel) (by decide +kernel)
theorem wi_X7_parts : Cond.instanceMethod yX7_parts ∈ nT := nT_in (i := 769) (by decide +kernel) (by decide +kernel)
set_option maxRecDepth 100000 in
theorem wc_X7_parts : Cond.code yX7_parts cX7_parts 6 (some .long) ∈ nT := nT_in (i := 770) rfl (by decide +kernel)
theorem wl_L_94 : Cond.methodLink RL 94 yX7_has ∈ nT := nT_in (i := 771) (by decide +kernel) (by decide +kernel)
theorem wi_X7_has : Cond.instanceMethod yX7_has ∈ nT := nT_in (i := 772) (by decide +kernel) (by decide +kernel)
theorem ws_X7_has : Cond.selects RX7 yX7_has yX7_has ∈ nT := nT_in (i := 773) (by decide +kernel) (by decide +kernel)
set_option maxRecDepth 100000 in
theorem wc_X7_has : Cond.code yX7_has cX7_has 4 (some .int) ∈ nT := nT_in (i := 774) rfl (by decide +kernel)
theorem wl_L_98 : Cond.methodLink RL 98 yX7_draw ∈ nT := nT_in (i := 775) (by decide +kernel) (by decide +kernel)
theorem wi_X7_draw : Cond.instanceMethod yX7_draw ∈ nT := nT_in (i := 776) (by decide +kernel) (by decide +kernel)
theorem ws_X7_draw : Cond.selects RX7 yX7_draw yX7_draw ∈ nT := nT_in (i := 777) (by decide +kernel) (by decide +kernel)
set_option maxRecDepth 100000 in
theorem wc_X7_draw : Cond.code yX7_draw cX7_draw 5 (some .long) ∈ nT := nT_in (i := 778) rfl (by decide +kernel)
theorem wl_L_102 : Cond.methodLink RL 102 yX7_drawn ∈ nT := nT_in (i := 779) (by decide +kernel) (by decide +kernel)
theorem wi_X7_drawn : Cond.instanceMethod yX7_drawn ∈ nT := nT_in (i := 780) (by decide +kernel) (by decide +kernel)
theorem ws_X7_drawn : Cond.selects RX7 yX7_drawn yX7_drawn ∈ nT := nT_in (i := 781) (by decide +kernel) (by decide +kernel)
set_option maxRecDepth 100000 in
theorem wc_X7_drawn : Cond.code yX7_drawn cX7_drawn 2 (some .int) ∈ nT := nT_in (i := 782) rfl (by decide +kernel)
theorem wl_L_106 : Cond.methodLink RL 106 yX7_expect ∈ nT := nT_in (i := 783) (by decide +kernel) (by decide +kernel)
theorem wi_X7_expect : Cond.instanceMethod yX7_expect ∈ nT := nT_in (i := 784) (by decide +kernel) (by decide +kernel)
theorem ws_X7_expect : Cond.selects RX7 yX7_expect yX7_expect ∈ nT := nT_in (i := 785) (by decide +kernel) (by decide +kernel)
set_option maxRecDepth 100000 in
theorem wc_X7_expect : Cond.code yX7_expect cX7_expect 7 (some .int) ∈ nT := nT_in (i := 786) rfl (by decide +kernel)
theorem wl_L_110 : Cond.methodLink RL 110 yX7_forget ∈ nT := nT_in (i := 787) (by decide +kernel) (by decide +kernel)
theorem wi_X7_forget : Cond.instanceMethod yX7_forget ∈ nT := nT_in (i := 788) (by decide +kernel) (by decide +kernel)
theorem ws_X7_forget : Cond.selects RX7 yX7_forget yX7_forget ∈ nT := nT_in (i := 789) (by decide +kernel) (by decide +kernel)
set_option maxRecDepth 100000 in
theorem wc_X7_forget : Cond.code yX7_forget cX7_forget 2 (some .boolean) ∈ nT := nT_in (i := 790) rfl (by decide +kernel)
theorem wl_L_114 : Cond.methodLink RL 114 yX7_wanted ∈ nT := nT_in (i := 791) (by decide +kernel) (by decide +kernel)
theorem wi_X7_wanted : Cond.instanceMethod yX7_wanted ∈ nT := nT_in (i := 792) (by decide +kernel) (by decide +kernel)
theorem ws_X7_wanted : Cond.selects RX7 yX7_wanted yX7_wanted ∈ nT := nT_in (i := 793) (by decide +kernel) (by decide +kernel)
set_option maxRecDepth 100000 in
theorem wc_X7_wanted : Cond.code yX7_wanted cX7_wanted 3 (some .int) ∈ nT := nT_in (i := 794) rfl (by decide +kernel)
theorem wl_X7_152 : Cond.methodLink RX7 152 yX7_findWanted ∈ nT := nT_in (i := 795) (by decide +kernel) (by decide +kernel)
theorem wi_X7_findWanted : Cond.instanceMethod yX7_findWanted ∈ nT := nT_in (i := 797) (by decide +kernel) (by decide +kernel)
set_option maxRecDepth 100000 in
theorem wc_X7_findWanted : Cond.code yX7_findWanted cX7_findWanted 8 (some .boolean) ∈ nT := nT_in (i := 798) rfl (by decide +kernel)
theorem wl_L_118 : Cond.methodLink RL 118 yX7_about ∈ nT := nT_in (i := 799) (by decide +kernel) (by decide +kernel)
theorem wi_X7_about : Cond.instanceMethod yX7_about ∈ nT := nT_in (i := 800) (by decide +kernel) (by decide +kernel)
theorem ws_X7_about : Cond.selects RX7 yX7_about yX7_about ∈ nT := nT_in (i := 801) (by decide +kernel) (by decide +kernel)
set_option maxRecDepth 100000 in
theorem wc_X7_about : Cond.code yX7_about cX7_about 3 (some .int) ∈ nT := nT_in (i := 802) rfl (by decide +kernel)
theorem wl_L_122 : Cond.methodLink RL 122 yX7_image ∈ nT := nT_in (i := 803) (by decide +kernel) (by decide +kernel)
theorem wi_X7_image : Cond.instanceMethod yX7_image ∈ nT := nT_in (i := 804) (by decide +kernel) (by decide +kernel)
theorem ws_X7_image : Cond.selects RX7 yX7_image yX7_image ∈ nT := nT_in (i := 805) (by decide +kernel) (by decide +kernel)
set_option maxRecDepth 100000 in
theorem wc_X7_image : Cond.code yX7_image cX7_image 2 (some .boolean) ∈ nT := nT_in (i := 806) rfl (by decide +kernel)
theorem wl_X7_155 : Cond.methodLink RX7 155 yX7_copy ∈ nT := nT_in (i := 807) (by decide +kernel) (by decide +kernel)
theorem wi_X7_copy : Cond.instanceMethod yX7_copy ∈ nT := nT_in (i := 809) (by decide +kernel) (by decide +kernel)
set_option maxRecDepth 100000 in
theorem wc_X7_copy : Cond.code yX7_copy cX7_copy 4 (none : Option Jvm.ClassFile.FieldType) ∈ nT := nT_in (i := 810) rfl (by decide +kernel)
theorem wl_X7_94 : Cond.methodLink RX7 94 yX7_move ∈ nT := nT_in (i := 811) (by decide +kernel) (by decide +kernel)
theorem wt_X7_move : Cond.static yX7_move ∈ nT := nT_in (i := 812) (by decide +kernel) (by decide +kernel)
set_option maxRecDepth 100000 in
theorem wc_X7_move : Cond.code yX7_move cX7_move 5 (none : Option Jvm.ClassFile.FieldType) ∈ nT := nT_in (i := 813) rfl (by decide +kernel)
theorem wl_L_126 : Cond.methodLink RL 126 yX7_again ∈ nT := nT_in (i := 814) (by decide +kernel) (by decide +kernel)
theorem wi_X7_again : Cond.instanceMethod yX7_again ∈ nT := nT_in (i := 815) (by decide +kernel) (by decide +kernel)
theorem ws_X7_again : Cond.selects RX7 yX7_again yX7_again ∈ nT := nT_in (i := 816) (by decide +kernel) (by decide +kernel)
set_option maxRecDepth 100000 in
theorem wc_X7_again : Cond.code yX7_again cX7_again 2 (some .boolean) ∈ nT := nT_in (i := 817) rfl (by decide +kernel)
theorem ul_X0 : ∀ w ∈ [Cond.laysFinal "NewCoins$ChangeMaker" "NewCoins$ChangeMaker" "row" "[I", Cond.laysFinal "NewCoins$ChangeMaker" "NewCoins$ChangeMaker" "least" "[[I", Cond.laysFinal "NewCoins$ChangeMaker" "NewCoins$ChangeMaker" "places" "[I", Cond.laysFinal "NewCoins$ChangeMaker" "NewCoins$ChangeMaker" "costs" "[I"], w ∈ nT := List.forall_mem_cons.mpr ⟨wy_X0_row, List.forall_mem_cons.mpr ⟨wy_X0_least, List.forall_mem_cons.mpr ⟨wy_X0_places, List.forall_mem_cons.mpr ⟨wy_X0_costs, fun _ h => absurd h List.not_mem_nil⟩⟩⟩⟩
theorem ue_X0 : wsX00 = [Cond.laysFinal "NewCoins$ChangeMaker" "NewCoins$ChangeMaker" "row" "[I", Cond.laysFinal "NewCoins$ChangeMaker" "NewCoins$ChangeMaker" "least" "[[I", Cond.laysFinal "NewCoins$ChangeMaker" "NewCoins$ChangeMaker" "places" "[I", Cond.laysFinal "NewCoins$ChangeMaker" "NewCoins$ChangeMaker" "costs" "[I"] := by decide +kernel
theorem u_X0 {cx : Cond} : ∀ w ∈ wsX00, w ∈ cx :: nT := fun w h => List.mem_cons_of_mem _ (ul_X0 w (by rw [← ue_X0]; exact h))
theorem ul_X1 : ∀ w ∈ [Cond.lays "NewCoins$Coinage" "NewCoins$Coinage" "count" "I", Cond.laysFinal "NewCoins$Coinage" "NewCoins$Coinage" "values" "[I", Cond.laysFinal "NewCoins$Coinage" "NewCoins$Coinage" "falling" "[I", Cond.laysFinal "NewCoins$Coinage" "NewCoins$Coinage" "least" "[I"], w ∈ nT := List.forall_mem_cons.mpr ⟨wy_X1_count, List.forall_mem_cons.mpr ⟨wy_X1_values, List.forall_mem_cons.mpr ⟨wy_X1_falling, List.forall_mem_cons.mpr ⟨wy_X1_least, fun _ h => absurd h List.not_mem_nil⟩⟩⟩⟩
theorem ue_X1 : wsX10 = [Cond.lays "NewCoins$Coinage" "NewCoins$Coinage" "count" "I", Cond.laysFinal "NewCoins$Coinage" "NewCoins$Coinage" "values" "[I", Cond.laysFinal "NewCoins$Coinage" "NewCoins$Coinage" "falling" "[I", Cond.laysFinal "NewCoins$Coinage" "NewCoins$Coinage" "least" "[I"] := by decide +kernel
theorem u_X1 {cx : Cond} : ∀ w ∈ wsX10, w ∈ cx :: nT := fun w h => List.mem_cons_of_mem _ (ul_X1 w (by rw [← ue_X1]; exact h))
theorem ul_X2 : ∀ w ∈ [Cond.lays "NewCoins$Expected" "NewCoins$Expected" "count" "I", Cond.laysFinal "NewCoins$Expected" "NewCoins$Expected" "prices" "[I", Cond.laysFinal "NewCoins$Expected" "NewCoins$Expected" "systems" "[I", Cond.laysFinal "NewCoins$Expected" "NewCoins$Expected" "coins" "[I", Cond.laysFinal "NewCoins$Expected" "NewCoins$Expected" "numbers" "[I"], w ∈ nT := List.forall_mem_cons.mpr ⟨wy_X2_count, List.forall_mem_cons.mpr ⟨wy_X2_prices, List.forall_mem_cons.mpr ⟨wy_X2_systems, List.forall_mem_cons.mpr ⟨wy_X2_coins, List.forall_mem_cons.mpr ⟨wy_X2_numbers, fun _ h => absurd h List.not_mem_nil⟩⟩⟩⟩⟩
theorem ue_X2 : wsX20 = [Cond.lays "NewCoins$Expected" "NewCoins$Expected" "count" "I", Cond.laysFinal "NewCoins$Expected" "NewCoins$Expected" "prices" "[I", Cond.laysFinal "NewCoins$Expected" "NewCoins$Expected" "systems" "[I", Cond.laysFinal "NewCoins$Expected" "NewCoins$Expected" "coins" "[I", Cond.laysFinal "NewCoins$Expected" "NewCoins$Expected" "numbers" "[I"] := by decide +kernel
theorem u_X2 {cx : Cond} : ∀ w ∈ wsX20, w ∈ cx :: nT := fun w h => List.mem_cons_of_mem _ (ul_X2 w (by rw [← ue_X2]; exact h))
theorem ul_X3 : ∀ w ∈ [Cond.lays "NewCoins$Goods" "NewCoins$Goods" "count" "I", Cond.laysFinal "NewCoins$Goods" "NewCoins$Goods" "prices" "[I", Cond.laysFinal "NewCoins$Goods" "NewCoins$Goods" "times" "[I"], w ∈ nT := List.forall_mem_cons.mpr ⟨wy_X3_count, List.forall_mem_cons.mpr ⟨wy_X3_prices, List.forall_mem_cons.mpr ⟨wy_X3_times, fun _ h => absurd h List.not_mem_nil⟩⟩⟩
theorem ue_X3 : wsX30 = [Cond.lays "NewCoins$Goods" "NewCoins$Goods" "count" "I", Cond.laysFinal "NewCoins$Goods" "NewCoins$Goods" "prices" "[I", Cond.laysFinal "NewCoins$Goods" "NewCoins$Goods" "times" "[I"] := by decide +kernel
theorem u_X3 {cx : Cond} : ∀ w ∈ wsX30, w ∈ cx :: nT := fun w h => List.mem_cons_of_mem _ (ul_X3 w (by rw [← ue_X3]; exact h))
theorem ul_X4 : ∀ w ∈ [Cond.laysFinal "NewCoins$Land" "NewCoins$Land" "old" "LNewCoins$Coinage;", Cond.laysFinal "NewCoins$Land" "NewCoins$Land" "fresh" "LNewCoins$Coinage;", Cond.laysFinal "NewCoins$Land" "NewCoins$Land" "goods" "LNewCoins$Goods;", Cond.laysFinal "NewCoins$Land" "NewCoins$Land" "tills" "[LNewCoins$Till;", Cond.laysFinal "NewCoins$Land" "NewCoins$Land" "drawnIn" "[I", Cond.lays "NewCoins$Land" "NewCoins$Land" "tillCount" "I", Cond.lays "NewCoins$Land" "NewCoins$Land" "a" "I", Cond.lays "NewCoins$Land" "NewCoins$Land" "b" "I", Cond.lays "NewCoins$Land" "NewCoins$Land" "step" "I"], w ∈ nT := List.forall_mem_cons.mpr ⟨wy_X4_old, List.forall_mem_cons.mpr ⟨wy_X4_fresh, List.forall_mem_cons.mpr ⟨wy_X4_goods, List.forall_mem_cons.mpr ⟨wy_X4_tills, List.forall_mem_cons.mpr ⟨wy_X4_drawnIn, List.forall_mem_cons.mpr ⟨wy_X4_tillCount, List.forall_mem_cons.mpr ⟨wy_X4_a, List.forall_mem_cons.mpr ⟨wy_X4_b, List.forall_mem_cons.mpr ⟨wy_X4_step, fun _ h => absurd h List.not_mem_nil⟩⟩⟩⟩⟩⟩⟩⟩⟩
theorem ue_X4 : wsX40 = [Cond.laysFinal "NewCoins$Land" "NewCoins$Land" "old" "LNewCoins$Coinage;", Cond.laysFinal "NewCoins$Land" "NewCoins$Land" "fresh" "LNewCoins$Coinage;", Cond.laysFinal "NewCoins$Land" "NewCoins$Land" "goods" "LNewCoins$Goods;", Cond.laysFinal "NewCoins$Land" "NewCoins$Land" "tills" "[LNewCoins$Till;", Cond.laysFinal "NewCoins$Land" "NewCoins$Land" "drawnIn" "[I", Cond.lays "NewCoins$Land" "NewCoins$Land" "tillCount" "I", Cond.lays "NewCoins$Land" "NewCoins$Land" "a" "I", Cond.lays "NewCoins$Land" "NewCoins$Land" "b" "I", Cond.lays "NewCoins$Land" "NewCoins$Land" "step" "I"] := by decide +kernel
theorem u_X4 {cx : Cond} : ∀ w ∈ wsX40, w ∈ cx :: nT := fun w h => List.mem_cons_of_mem _ (ul_X4 w (by rw [← ue_X4]; exact h))
theorem ul_X5 : ∀ w ∈ [Cond.laysFinal "NewCoins$Till" "NewCoins$Till" "old" "[I", Cond.laysFinal "NewCoins$Till" "NewCoins$Till" "fresh" "[I", Cond.laysFinal "NewCoins$Till" "NewCoins$Till" "latest" "[I", Cond.laysFinal "NewCoins$Till" "NewCoins$Till" "expected" "LNewCoins$Expected;", Cond.lays "NewCoins$Till" "NewCoins$Till" "sales" "I", Cond.lays "NewCoins$Till" "NewCoins$Till" "scraps" "J", Cond.lays "NewCoins$Till" "NewCoins$Till" "takings" "J"], w ∈ nT := List.forall_mem_cons.mpr ⟨wy_X5_old, List.forall_mem_cons.mpr ⟨wy_X5_fresh, List.forall_mem_cons.mpr ⟨wy_X5_latest, List.forall_mem_cons.mpr ⟨wy_X5_expected, List.forall_mem_cons.mpr ⟨wy_X5_sales, List.forall_mem_cons.mpr ⟨wy_X5_scraps, List.forall_mem_cons.mpr ⟨wy_X5_takings, fun _ h => absurd h List.not_mem_nil⟩⟩⟩⟩⟩⟩⟩
theorem ue_X5 : wsX50 = [Cond.laysFinal "NewCoins$Till" "NewCoins$Till" "old" "[I", Cond.laysFinal "NewCoins$Till" "NewCoins$Till" "fresh" "[I", Cond.laysFinal "NewCoins$Till" "NewCoins$Till" "latest" "[I", Cond.laysFinal "NewCoins$Till" "NewCoins$Till" "expected" "LNewCoins$Expected;", Cond.lays "NewCoins$Till" "NewCoins$Till" "sales" "I", Cond.lays "NewCoins$Till" "NewCoins$Till" "scraps" "J", Cond.lays "NewCoins$Till" "NewCoins$Till" "takings" "J"] := by decide +kernel
theorem u_X5 {cx : Cond} : ∀ w ∈ wsX50, w ∈ cx :: nT := fun w h => List.mem_cons_of_mem _ (ul_X5 w (by rw [← ue_X5]; exact h))
theorem ul_X6 : ∀ w ∈ [Cond.laysFinal "NewCoins" "NewCoins" "now" "LNewCoins$Land;", Cond.laysFinal "NewCoins" "NewCoins" "images" "[LNewCoins$Land;", Cond.laysFinal "NewCoins" "NewCoins" "taken" "[Z", Cond.laysFinal "NewCoins" "NewCoins" "maker" "LNewCoins$ChangeMaker;", Cond.laysFinal "NewCoins" "NewCoins" "fewestRow" "[I", Cond.laysFinal "NewCoins" "NewCoins" "turns" "[J"], w ∈ nT := List.forall_mem_cons.mpr ⟨wy_X6_now, List.forall_mem_cons.mpr ⟨wy_X6_images, List.forall_mem_cons.mpr ⟨wy_X6_taken, List.forall_mem_cons.mpr ⟨wy_X6_maker, List.forall_mem_cons.mpr ⟨wy_X6_fewestRow, List.forall_mem_cons.mpr ⟨wy_X6_turns, fun _ h => absurd h List.not_mem_nil⟩⟩⟩⟩⟩⟩
theorem ue_X6 : wsX60 = [Cond.laysFinal "NewCoins" "NewCoins" "now" "LNewCoins$Land;", Cond.laysFinal "NewCoins" "NewCoins" "images" "[LNewCoins$Land;", Cond.laysFinal "NewCoins" "NewCoins" "taken" "[Z", Cond.laysFinal "NewCoins" "NewCoins" "maker" "LNewCoins$ChangeMaker;", Cond.laysFinal "NewCoins" "NewCoins" "fewestRow" "[I", Cond.laysFinal "NewCoins" "NewCoins" "turns" "[J"] := by decide +kernel
theorem u_X6 {cx : Cond} : ∀ w ∈ wsX60, w ∈ cx :: nT := fun w h => List.mem_cons_of_mem _ (ul_X6 w (by rw [← ue_X6]; exact h))
theorem ul_X7 : ∀ w ∈ [Cond.lays "NewCoinsModel" "NewCoinsModel" "code" "I", Cond.laysFinal "NewCoinsModel" "NewCoinsModel" "coins" "[I", Cond.laysFinal "NewCoinsModel" "NewCoinsModel" "value" "[I", Cond.laysFinal "NewCoinsModel" "NewCoinsModel" "rates" "[I", Cond.laysFinal "NewCoinsModel" "NewCoinsModel" "sales" "[I", Cond.laysFinal "NewCoinsModel" "NewCoinsModel" "goods" "[I", Cond.laysFinal "NewCoinsModel" "NewCoinsModel" "prices" "[I", Cond.laysFinal "NewCoinsModel" "NewCoinsModel" "times" "[I", Cond.laysFinal "NewCoinsModel" "NewCoinsModel" "steps" "[I", Cond.laysFinal "NewCoinsModel" "NewCoinsModel" "tills" "[I", Cond.laysFinal "NewCoinsModel" "NewCoinsModel" "tillSales" "[I", Cond.laysFinal "NewCoinsModel" "NewCoinsModel" "scraps" "[J", Cond.laysFinal "NewCoinsModel" "NewCoinsModel" "paid" "[J", Cond.laysFinal "NewCoinsModel" "NewCoinsModel" "expected" "[I", Cond.laysFinal "NewCoinsModel" "NewCoinsModel" "has" "[I", Cond.laysFinal "NewCoinsModel" "NewCoinsModel" "gave" "[I", Cond.laysFinal "NewCoinsModel" "NewCoinsModel" "drawnIn" "[I", Cond.laysFinal "NewCoinsModel" "NewCoinsModel" "expects" "[I", Cond.laysFinal "NewCoinsModel" "NewCoinsModel" "one" "[J", Cond.laysFinal "NewCoinsModel" "NewCoinsModel" "by" "[I", Cond.laysFinal "NewCoinsModel" "NewCoinsModel" "few" "[I", Cond.laysFinal "NewCoinsModel" "NewCoinsModel" "take" "[I", Cond.laysFinal "NewCoinsModel" "NewCoinsModel" "bound" "[I", Cond.laysFinal "NewCoinsModel" "NewCoinsModel" "least" "[I", Cond.laysFinal "NewCoinsModel" "NewCoinsModel" "pool" "[I", Cond.laysFinal "NewCoinsModel" "NewCoinsModel" "want" "[I", Cond.laysFinal "NewCoinsModel" "NewCoinsModel" "kept" "[Z"], w ∈ nT := List.forall_mem_cons.mpr ⟨wy_X7_code, List.forall_mem_cons.mpr ⟨wy_X7_coins, List.forall_mem_cons.mpr ⟨wy_X7_value, List.forall_mem_cons.mpr ⟨wy_X7_rates, List.forall_mem_cons.mpr ⟨wy_X7_sales, List.forall_mem_cons.mpr ⟨wy_X7_goods, List.forall_mem_cons.mpr ⟨wy_X7_prices, List.forall_mem_cons.mpr ⟨wy_X7_times, List.forall_mem_cons.mpr ⟨wy_X7_steps, List.forall_mem_cons.mpr ⟨wy_X7_tills, List.forall_mem_cons.mpr ⟨wy_X7_tillSales, List.forall_mem_cons.mpr ⟨wy_X7_scraps, List.forall_mem_cons.mpr ⟨wy_X7_paid, List.forall_mem_cons.mpr ⟨wy_X7_expected, List.forall_mem_cons.mpr ⟨wy_X7_has, List.forall_mem_cons.mpr ⟨wy_X7_gave, List.forall_mem_cons.mpr ⟨wy_X7_drawnIn, List.forall_mem_cons.mpr ⟨wy_X7_expects, List.forall_mem_cons.mpr ⟨wy_X7_one, List.forall_mem_cons.mpr ⟨wy_X7_by, List.forall_mem_cons.mpr ⟨wy_X7_few, List.forall_mem_cons.mpr ⟨wy_X7_take, List.forall_mem_cons.mpr ⟨wy_X7_bound, List.forall_mem_cons.mpr ⟨wy_X7_least, List.forall_mem_cons.mpr ⟨wy_X7_pool, List.forall_mem_cons.mpr ⟨wy_X7_want, List.forall_mem_cons.mpr ⟨wy_X7_kept, fun _ h => absurd h List.not_mem_nil⟩⟩⟩⟩⟩⟩⟩⟩⟩⟩⟩⟩⟩⟩⟩⟩⟩⟩⟩⟩⟩⟩⟩⟩⟩⟩⟩
theorem ue_X7 : wsX70 = [Cond.lays "NewCoinsModel" "NewCoinsModel" "code" "I", Cond.laysFinal "NewCoinsModel" "NewCoinsModel" "coins" "[I", Cond.laysFinal "NewCoinsModel" "NewCoinsModel" "value" "[I", Cond.laysFinal "NewCoinsModel" "NewCoinsModel" "rates" "[I", Cond.laysFinal "NewCoinsModel" "NewCoinsModel" "sales" "[I", Cond.laysFinal "NewCoinsModel" "NewCoinsModel" "goods" "[I", Cond.laysFinal "NewCoinsModel" "NewCoinsModel" "prices" "[I", Cond.laysFinal "NewCoinsModel" "NewCoinsModel" "times" "[I", Cond.laysFinal "NewCoinsModel" "NewCoinsModel" "steps" "[I", Cond.laysFinal "NewCoinsModel" "NewCoinsModel" "tills" "[I", Cond.laysFinal "NewCoinsModel" "NewCoinsModel" "tillSales" "[I", Cond.laysFinal "NewCoinsModel" "NewCoinsModel" "scraps" "[J", Cond.laysFinal "NewCoinsModel" "NewCoinsModel" "paid" "[J", Cond.laysFinal "NewCoinsModel" "NewCoinsModel" "expected" "[I", Cond.laysFinal "NewCoinsModel" "NewCoinsModel" "has" "[I", Cond.laysFinal "NewCoinsModel" "NewCoinsModel" "gave" "[I", Cond.laysFinal "NewCoinsModel" "NewCoinsModel" "drawnIn" "[I", Cond.laysFinal "NewCoinsModel" "NewCoinsModel" "expects" "[I", Cond.laysFinal "NewCoinsModel" "NewCoinsModel" "one" "[J", Cond.laysFinal "NewCoinsModel" "NewCoinsModel" "by" "[I", Cond.laysFinal "NewCoinsModel" "NewCoinsModel" "few" "[I", Cond.laysFinal "NewCoinsModel" "NewCoinsModel" "take" "[I", Cond.laysFinal "NewCoinsModel" "NewCoinsModel" "bound" "[I", Cond.laysFinal "NewCoinsModel" "NewCoinsModel" "least" "[I", Cond.laysFinal "NewCoinsModel" "NewCoinsModel" "pool" "[I", Cond.laysFinal "NewCoinsModel" "NewCoinsModel" "want" "[I", Cond.laysFinal "NewCoinsModel" "NewCoinsModel" "kept" "[Z"] := by decide +kernel
theorem u_X7 {cx : Cond} : ∀ w ∈ wsX70, w ∈ cx :: nT := fun w h => List.mem_cons_of_mem _ (ul_X7 w (by rw [← ue_X7]; exact h))
def wsX6_init : List Cond := Cond.code yX6_init cX6_init 2 (none : Option Jvm.ClassFile.FieldType) :: nT
def wsX4_init : List Cond := Cond.code yX4_init cX4_init 2 (none : Option Jvm.ClassFile.FieldType) :: nT
def wsX1_init : List Cond := Cond.code yX1_init cX1_init 1 (none : Option Jvm.ClassFile.FieldType) :: nT
def wsJ7_fill_53178 : List Cond := Cond.code yJ7_fill_53178 cJ7_fill_53178 4 (none : Option Jvm.ClassFile.FieldType) :: nT
def wsX3_init : List Cond := Cond.code yX3_init cX3_init 1 (none : Option Jvm.ClassFile.FieldType) :: nT
def wsX5_init : List Cond := Cond.code yX5_init cX5_init 1 (none : Option Jvm.ClassFile.FieldType) :: nT
def wsX2_init : List Cond := Cond.code yX2_init cX2_init 1 (none : Option Jvm.ClassFile.FieldType) :: nT
def wsX0_init : List Cond := Cond.code yX0_init cX0_init 1 (none : Option Jvm.ClassFile.FieldType) :: nT
def wsX6_coin : List Cond := Cond.code yX6_coin cX6_coin 4 (some .int) :: nT
def wsX4_coinageOf : List Cond := Cond.code yX4_coinageOf cX4_coinageOf 2 (some (.object "NewCoins$Coinage")) :: nT
def wsX1_add : List Cond := Cond.code yX1_add cX1_add 2 (some .int) :: nT
def wsX6_within : List Cond := Cond.code yX6_within cX6_within 3 (some .boolean) :: nT
def wsX1_isValue : List Cond := Cond.code yX1_isValue cX1_isValue 3 (some .boolean) :: nT
def wsX1_rank : List Cond := Cond.code yX1_rank cX1_rank 3 (none : Option Jvm.ClassFile.FieldType) :: nT
def wsX1_improve : List Cond := Cond.code yX1_improve cX1_improve 4 (none : Option Jvm.ClassFile.FieldType) :: nT
def wsX6_rate : List Cond := Cond.code yX6_rate cX6_rate 3 (some .boolean) :: nT
def wsX4_hasSold : List Cond := Cond.code yX4_hasSold cX4_hasSold 2 (some .boolean) :: nT
def wsX6_good : List Cond := Cond.code yX6_good cX6_good 3 (some .int) :: nT
def wsX3_add : List Cond := Cond.code yX3_add cX3_add 3 (some .int) :: nT
def wsX6_sold : List Cond := Cond.code yX6_sold cX6_sold 3 (some .boolean) :: nT
def wsX3_isGood : List Cond := Cond.code yX3_isGood cX3_isGood 2 (some .boolean) :: nT
def wsX6_step : List Cond := Cond.code yX6_step cX6_step 2 (some .boolean) :: nT
def wsX6_price : List Cond := Cond.code yX6_price cX6_price 3 (some .int) :: nT
def wsX6_isRule : List Cond := Cond.code yX6_isRule cX6_isRule 1 (some .boolean) :: nT
def wsX4_newPrice : List Cond := Cond.code yX4_newPrice cX4_newPrice 7 (some .int) :: nT
def wsX6_wholeTimes : List Cond := Cond.code yX6_wholeTimes cX6_wholeTimes 2 (some .int) :: nT
def wsX4_roundsUp : List Cond := Cond.code yX4_roundsUp cX4_roundsUp 4 (some .boolean) :: nT
def wsX6_gain : List Cond := Cond.code yX6_gain cX6_gain 5 (some .long) :: nT
def wsX4_gainOf : List Cond := Cond.code yX4_gainOf cX4_gainOf 5 (some .long) :: nT
def wsX6_fairest : List Cond := Cond.code yX6_fairest cX6_fairest 9 (some .int) :: nT
def wsX6_startOfWays : List Cond := Cond.code yX6_startOfWays cX6_startOfWays 10 (some .long) :: nT
def wsJ9_abs_067f4 : List Cond := Cond.code yJ9_abs_067f4 cJ9_abs_067f4 2 (some .long) :: nT
def wsJ6_bitCount_0f7a4 : List Cond := Cond.code yJ6_bitCount_0f7a4 cJ6_bitCount_0f7a4 1 (some .int) :: nT
def wsX6_gains : List Cond := Cond.code yX6_gains cX6_gains 6 (some .long) :: nT
def wsX6_fewest : List Cond := Cond.code yX6_fewest cX6_fewest 5 (some .int) :: nT
def wsX1_hasFewest : List Cond := Cond.code yX1_hasFewest cX1_hasFewest 2 (some .boolean) :: nT
def wsX6_isSum : List Cond := Cond.code yX6_isSum cX6_isSum 1 (some .boolean) :: nT
def wsX1_isCoin : List Cond := Cond.code yX1_isCoin cX1_isCoin 2 (some .boolean) :: nT
def wsX1_writeFewest : List Cond := Cond.code yX1_writeFewest cX1_writeFewest 8 (none : Option Jvm.ClassFile.FieldType) :: nT
def wsX6_greedy : List Cond := Cond.code yX6_greedy cX6_greedy 4 (some .int) :: nT
def wsX1_countGreedily : List Cond := Cond.code yX1_countGreedily cX1_countGreedily 7 (some .int) :: nT
def wsX6_odd : List Cond := Cond.code yX6_odd cX6_odd 3 (some .int) :: nT
def wsX1_leastOdd : List Cond := Cond.code yX1_leastOdd cX1_leastOdd 2 (some .int) :: nT
def wsX6_till : List Cond := Cond.code yX6_till cX6_till 1 (some .int) :: nT
def wsX6_put : List Cond := Cond.code yX6_put cX6_put 9 (some .int) :: nT
def wsX4_tillAt : List Cond := Cond.code yX4_tillAt cX4_tillAt 2 (some (.object "NewCoins$Till")) :: nT
def wsX4_isCoin : List Cond := Cond.code yX4_isCoin cX4_isCoin 4 (some .boolean) :: nT
def wsX5_countsOf : List Cond := Cond.code yX5_countsOf cX5_countsOf 2 (some (.array .int)) :: nT
def wsX6_sale : List Cond := Cond.code yX6_sale cX6_sale 10 (some .int) :: nT
def wsX4_isSale : List Cond := Cond.code yX4_isSale cX4_isSale 5 (some .boolean) :: nT
def wsX4_spareParts : List Cond := Cond.code yX4_spareParts cX4_spareParts 6 (some .int) :: nT
def wsX4_unitParts : List Cond := Cond.code yX4_unitParts cX4_unitParts 2 (some .int) :: nT
def wsX0_make : List Cond := Cond.code yX0_make cX0_make 7 (some .boolean) :: nT
def wsX0_allow : List Cond := Cond.code yX0_allow cX0_allow 6 (none : Option Jvm.ClassFile.FieldType) :: nT
def wsX0_slide : List Cond := Cond.code yX0_slide cX0_slide 12 (none : Option Jvm.ClassFile.FieldType) :: nT
def wsX0_writeRow : List Cond := Cond.code yX0_writeRow cX0_writeRow 9 (none : Option Jvm.ClassFile.FieldType) :: nT
def wsJ9_min_7cf53 : List Cond := Cond.code yJ9_min_7cf53 cJ9_min_7cf53 2 (some .int) :: nT
def wsX0_leadsOn : List Cond := Cond.code yX0_leadsOn cX0_leadsOn 5 (some .boolean) :: nT
def wsX5_close : List Cond := Cond.code yX5_close cX5_close 5 (none : Option Jvm.ClassFile.FieldType) :: nT
def wsX6_given : List Cond := Cond.code yX6_given cX6_given 4 (some .int) :: nT
def wsX6_tell : List Cond := Cond.code yX6_tell cX6_tell 4 (some .long) :: nT
def wsX4_partsOf : List Cond := Cond.code yX4_partsOf cX4_partsOf 7 (some .long) :: nT
def wsX6_has : List Cond := Cond.code yX6_has cX6_has 5 (some .int) :: nT
def wsX6_draw : List Cond := Cond.code yX6_draw cX6_draw 6 (some .long) :: nT
def wsX6_drawn : List Cond := Cond.code yX6_drawn cX6_drawn 2 (some .int) :: nT
def wsX6_expect : List Cond := Cond.code yX6_expect cX6_expect 7 (some .int) :: nT
def wsX2_add : List Cond := Cond.code yX2_add cX2_add 5 (some .int) :: nT
def wsX6_forget : List Cond := Cond.code yX6_forget cX6_forget 3 (some .boolean) :: nT
def wsX6_wanted : List Cond := Cond.code yX6_wanted cX6_wanted 4 (some .int) :: nT
def wsX6_mostLacking : List Cond := Cond.code yX6_mostLacking cX6_mostLacking 9 (some .int) :: nT
def wsJ9_max_7cf53 : List Cond := Cond.code yJ9_max_7cf53 cJ9_max_7cf53 2 (some .int) :: nT
def wsX6_about : List Cond := Cond.code yX6_about cX6_about 4 (some .int) :: nT
def wsX4_detail : List Cond := Cond.code yX4_detail cX4_detail 2 (some .int) :: nT
def wsX4_goodDetail : List Cond := Cond.code yX4_goodDetail cX4_goodDetail 2 (some .int) :: nT
def wsX1_detail : List Cond := Cond.code yX1_detail cX1_detail 2 (some .int) :: nT
def wsX6_image : List Cond := Cond.code yX6_image cX6_image 2 (some .boolean) :: nT
def wsX4_copyFrom : List Cond := Cond.code yX4_copyFrom cX4_copyFrom 3 (none : Option Jvm.ClassFile.FieldType) :: nT
def wsX1_copyFrom : List Cond := Cond.code yX1_copyFrom cX1_copyFrom 2 (none : Option Jvm.ClassFile.FieldType) :: nT
def wsX3_copyFrom : List Cond := Cond.code yX3_copyFrom cX3_copyFrom 2 (none : Option Jvm.ClassFile.FieldType) :: nT
def wsX5_copyFrom : List Cond := Cond.code yX5_copyFrom cX5_copyFrom 2 (none : Option Jvm.ClassFile.FieldType) :: nT
def wsX2_copyFrom : List Cond := Cond.code yX2_copyFrom cX2_copyFrom 2 (none : Option Jvm.ClassFile.FieldType) :: nT
def wsX6_again : List Cond := Cond.code yX6_again cX6_again 2 (some .boolean) :: nT
def wsX7_init : List Cond := Cond.code yX7_init cX7_init 1 (none : Option Jvm.ClassFile.FieldType) :: nT
def wsX7_coin : List Cond := Cond.code yX7_coin cX7_coin 4 (some .int) :: nT
def wsX7_in : List Cond := Cond.code yX7_in cX7_in 3 (some .boolean) :: nT
def wsX7_rate : List Cond := Cond.code yX7_rate cX7_rate 3 (some .boolean) :: nT
def wsX7_good : List Cond := Cond.code yX7_good cX7_good 3 (some .int) :: nT
def wsX7_sold : List Cond := Cond.code yX7_sold cX7_sold 3 (some .boolean) :: nT
def wsX7_isGood : List Cond := Cond.code yX7_isGood cX7_isGood 2 (some .boolean) :: nT
def wsX7_step : List Cond := Cond.code yX7_step cX7_step 2 (some .boolean) :: nT
def wsX7_price : List Cond := Cond.code yX7_price cX7_price 3 (some .int) :: nT
def wsX7_priceOf : List Cond := Cond.code yX7_priceOf cX7_priceOf 9 (some .int) :: nT
def wsX7_gain : List Cond := Cond.code yX7_gain cX7_gain 5 (some .long) :: nT
def wsX7_gainOf : List Cond := Cond.code yX7_gainOf cX7_gainOf 3 (some .long) :: nT
def wsX7_fairest : List Cond := Cond.code yX7_fairest cX7_fairest 8 (some .int) :: nT
def wsX7_gains : List Cond := Cond.code yX7_gains cX7_gains 5 (some .long) :: nT
def wsX7_fewest : List Cond := Cond.code yX7_fewest cX7_fewest 5 (some .int) :: nT
def wsX7_isCoin : List Cond := Cond.code yX7_isCoin cX7_isCoin 3 (some .boolean) :: nT
def wsX7_noBounds : List Cond := Cond.code yX7_noBounds cX7_noBounds 2 (none : Option Jvm.ClassFile.FieldType) :: nT
def wsX7_find : List Cond := Cond.code yX7_find cX7_find 11 (some .int) :: nT
def wsX7_sortCoins : List Cond := Cond.code yX7_sortCoins cX7_sortCoins 4 (none : Option Jvm.ClassFile.FieldType) :: nT
def wsX7_greedy : List Cond := Cond.code yX7_greedy cX7_greedy 3 (some .int) :: nT
def wsX7_greedyOf : List Cond := Cond.code yX7_greedyOf cX7_greedyOf 7 (some .int) :: nT
def wsX7_odd : List Cond := Cond.code yX7_odd cX7_odd 5 (some .int) :: nT
def wsX7_till : List Cond := Cond.code yX7_till cX7_till 3 (some .int) :: nT
def wsX7_cell : List Cond := Cond.code yX7_cell cX7_cell 3 (some .int) :: nT
def wsX7_put : List Cond := Cond.code yX7_put cX7_put 6 (some .int) :: nT
def wsX7_isTill : List Cond := Cond.code yX7_isTill cX7_isTill 2 (some .boolean) :: nT
def wsX7_sale : List Cond := Cond.code yX7_sale cX7_sale 11 (some .int) :: nT
def wsX7_isSale : List Cond := Cond.code yX7_isSale cX7_isSale 6 (some .boolean) :: nT
def wsX7_over : List Cond := Cond.code yX7_over cX7_over 5 (some .int) :: nT
def wsX7_given : List Cond := Cond.code yX7_given cX7_given 3 (some .int) :: nT
def wsX7_tell : List Cond := Cond.code yX7_tell cX7_tell 3 (some .long) :: nT
def wsX7_parts : List Cond := Cond.code yX7_parts cX7_parts 6 (some .long) :: nT
def wsX7_has : List Cond := Cond.code yX7_has cX7_has 4 (some .int) :: nT
def wsX7_draw : List Cond := Cond.code yX7_draw cX7_draw 5 (some .long) :: nT
def wsX7_drawn : List Cond := Cond.code yX7_drawn cX7_drawn 2 (some .int) :: nT
def wsX7_expect : List Cond := Cond.code yX7_expect cX7_expect 7 (some .int) :: nT
def wsX7_forget : List Cond := Cond.code yX7_forget cX7_forget 2 (some .boolean) :: nT
def wsX7_wanted : List Cond := Cond.code yX7_wanted cX7_wanted 3 (some .int) :: nT
def wsX7_findWanted : List Cond := Cond.code yX7_findWanted cX7_findWanted 8 (some .boolean) :: nT
def wsX7_about : List Cond := Cond.code yX7_about cX7_about 3 (some .int) :: nT
def wsX7_image : List Cond := Cond.code yX7_image cX7_image 2 (some .boolean) :: nT
def wsX7_copy : List Cond := Cond.code yX7_copy cX7_copy 4 (none : Option Jvm.ClassFile.FieldType) :: nT
def wsX7_move : List Cond := Cond.code yX7_move cX7_move 5 (none : Option Jvm.ClassFile.FieldType) :: nT
def wsX7_again : List Cond := Cond.code yX7_again cX7_again 2 (some .boolean) :: nT
theorem nT_V {cx cy : Cond} {own C : String} {idx : Nat} {y : MethodName} (h1 : Cond.methodLink own idx y ∈ nT) (h2 : Cond.instanceMethod y ∈ nT) (h3 : Cond.selects C y y ∈ nT) (h4 : Cond.initialized C ∈ nT) (h5 : cy ∈ nT) : GoodIn (cx :: nT) (wsV own idx C y (cy :: nT)) := by
  intro w hw
  have h : w ∈ nT := by
    rcases List.mem_append.mp hw with h | h
    · simp only [List.mem_cons, List.not_mem_nil, or_false] at h
      rcases h with rfl | rfl | rfl | rfl
      · exact h1
      · exact h2
      · exact h3
      · exact h4
    · rcases List.mem_cons.mp h with rfl | h
      · exact h5
      · exact h
  exact ⟨List.mem_cons_of_mem _ h, good_of_word (nT_g h)⟩
theorem nT_S {cx cy : Cond} {own : String} {idx : Nat} {y : MethodName} (h1 : Cond.methodLink own idx y ∈ nT) (h2 : Cond.static y ∈ nT) (h4 : Cond.initialized y.cls ∈ nT) (h5 : cy ∈ nT) : GoodIn (cx :: nT) (va_wsS own idx y (cy :: nT)) := by
  intro w hw
  have h : w ∈ nT := by
    rcases List.mem_append.mp hw with h | h
    · simp only [List.mem_cons, List.not_mem_nil, or_false] at h
      rcases h with rfl | rfl | rfl
      · exact h1
      · exact h2
      · exact h4
    · rcases List.mem_cons.mp h with rfl | h
      · exact h5
      · exact h
  exact ⟨List.mem_cons_of_mem _ h, good_of_word (nT_g h)⟩
theorem nT_N {cx cy : Cond} (h5 : cy ∈ nT) : GoodIn (cx :: nT) (cy :: nT) := by
  intro w hw
  have h : w ∈ nT := by
    rcases List.mem_cons.mp hw with rfl | h
    · exact h5
    · exact h
  exact ⟨List.mem_cons_of_mem _ h, good_of_word (nT_g h)⟩
theorem nT_m {cx w : Cond} (h : w ∈ nT) : w ∈ cx :: nT := List.mem_cons_of_mem _ h
end
section
theorem dX0_init_0 : decode cX0_init 0 = .ok (.aload_n 0, 1) := by decide +kernel
theorem dX0_init_1 : decode cX0_init 1 = .ok (.invokespecial 3, 3) := by decide +kernel
theorem dX0_init_4 : decode cX0_init 4 = .ok (.aload_n 0, 1) := by decide +kernel
theorem dX0_init_5 : decode cX0_init 5 = .ok (.bipush 8, 2) := by decide +kernel
theorem dX0_init_7 : decode cX0_init 7 = .ok (.newarray .int, 2) := by decide +kernel
theorem dX0_init_9 : decode cX0_init 9 = .ok (.putfield 9, 3) := by decide +kernel
theorem dX0_init_12 : decode cX0_init 12 = .ok (.aload_n 0, 1) := by decide +kernel
theorem dX0_init_13 : decode cX0_init 13 = .ok (.bipush 9, 2) := by decide +kernel
theorem dX0_init_15 : decode cX0_init 15 = .ok (.sipush 2001, 3) := by decide +kernel
theorem dX0_init_18 : decode cX0_init 18 = .ok (.multianewarray 15 2, 4) := by decide +kernel
theorem dX0_init_22 : decode cX0_init 22 = .ok (.putfield 17, 3) := by decide +kernel
theorem dX0_init_25 : decode cX0_init 25 = .ok (.aload_n 0, 1) := by decide +kernel
theorem dX0_init_26 : decode cX0_init 26 = .ok (.sipush 2001, 3) := by decide +kernel
theorem dX0_init_29 : decode cX0_init 29 = .ok (.newarray .int, 2) := by decide +kernel
theorem dX0_init_31 : decode cX0_init 31 = .ok (.putfield 20, 3) := by decide +kernel
theorem dX0_init_34 : decode cX0_init 34 = .ok (.aload_n 0, 1) := by decide +kernel
theorem dX0_init_35 : decode cX0_init 35 = .ok (.sipush 2001, 3) := by decide +kernel
theorem dX0_init_38 : decode cX0_init 38 = .ok (.newarray .int, 2) := by decide +kernel
theorem dX0_init_40 : decode cX0_init 40 = .ok (.putfield 23, 3) := by decide +kernel
theorem dX0_init_43 : decode cX0_init 43 = .ok (.return_, 1) := by decide +kernel
theorem dX0_make_0 : decode cX0_make 0 = .ok (.iload_n 3, 1) := by decide +kernel
theorem dX0_make_1 : decode cX0_make 1 = .ok (.invokestatic 26, 3) := by decide +kernel
theorem dX0_make_4 : decode cX0_make 4 = .ok (.ifCond .ne 5, 3) := by decide +kernel
theorem dX0_make_7 : decode cX0_make 7 = .ok (.iconst 0, 1) := by decide +kernel
theorem dX0_make_8 : decode cX0_make 8 = .ok (.ireturn, 1) := by decide +kernel
theorem dX0_make_9 : decode cX0_make 9 = .ok (.aload_n 0, 1) := by decide +kernel
theorem dX0_make_10 : decode cX0_make 10 = .ok (.getfield 17, 3) := by decide +kernel
theorem dX0_make_13 : decode cX0_make 13 = .ok (.iconst 0, 1) := by decide +kernel
theorem dX0_make_14 : decode cX0_make 14 = .ok (.aaload, 1) := by decide +kernel
theorem dX0_make_15 : decode cX0_make 15 = .ok (.iconst (-1), 1) := by decide +kernel
theorem dX0_make_16 : decode cX0_make 16 = .ok (.invokestatic 30, 3) := by decide +kernel
theorem dX0_make_19 : decode cX0_make 19 = .ok (.aload_n 0, 1) := by decide +kernel
theorem dX0_make_20 : decode cX0_make 20 = .ok (.getfield 17, 3) := by decide +kernel
theorem dX0_make_23 : decode cX0_make 23 = .ok (.iconst 0, 1) := by decide +kernel
theorem dX0_make_24 : decode cX0_make 24 = .ok (.aaload, 1) := by decide +kernel
theorem dX0_make_25 : decode cX0_make 25 = .ok (.iconst 0, 1) := by decide +kernel
theorem dX0_make_26 : decode cX0_make 26 = .ok (.iconst 0, 1) := by decide +kernel
theorem dX0_make_27 : decode cX0_make 27 = .ok (.iastore, 1) := by decide +kernel
theorem dX0_make_28 : decode cX0_make 28 = .ok (.aload_n 1, 1) := by decide +kernel
theorem dX0_make_29 : decode cX0_make 29 = .ok (.getfield 36, 3) := by decide +kernel
theorem dX0_make_32 : decode cX0_make 32 = .ok (.istore 4, 2) := by decide +kernel
theorem dX0_make_34 : decode cX0_make 34 = .ok (.iconst 0, 1) := by decide +kernel
theorem dX0_make_35 : decode cX0_make 35 = .ok (.istore 5, 2) := by decide +kernel
theorem dX0_make_37 : decode cX0_make 37 = .ok (.iload 5, 2) := by decide +kernel
theorem dX0_make_39 : decode cX0_make 39 = .ok (.iload 4, 2) := by decide +kernel
theorem dX0_make_41 : decode cX0_make 41 = .ok (.if_icmp .ge 41, 3) := by decide +kernel
theorem dX0_make_44 : decode cX0_make 44 = .ok (.aload_n 1, 1) := by decide +kernel
theorem dX0_make_45 : decode cX0_make 45 = .ok (.getfield 42, 3) := by decide +kernel
theorem dX0_make_48 : decode cX0_make 48 = .ok (.iload 4, 2) := by decide +kernel
theorem dX0_make_50 : decode cX0_make 50 = .ok (.iconst 1, 1) := by decide +kernel
theorem dX0_make_51 : decode cX0_make 51 = .ok (.isub, 1) := by decide +kernel
theorem dX0_make_52 : decode cX0_make 52 = .ok (.iload 5, 2) := by decide +kernel
theorem dX0_make_54 : decode cX0_make 54 = .ok (.isub, 1) := by decide +kernel
theorem dX0_make_55 : decode cX0_make 55 = .ok (.iaload, 1) := by decide +kernel
theorem dX0_make_56 : decode cX0_make 56 = .ok (.istore 6, 2) := by decide +kernel
theorem dX0_make_58 : decode cX0_make 58 = .ok (.aload_n 0, 1) := by decide +kernel
theorem dX0_make_59 : decode cX0_make 59 = .ok (.iload 5, 2) := by decide +kernel
theorem dX0_make_61 : decode cX0_make 61 = .ok (.aload_n 1, 1) := by decide +kernel
theorem dX0_make_62 : decode cX0_make 62 = .ok (.getfield 45, 3) := by decide +kernel
theorem dX0_make_65 : decode cX0_make 65 = .ok (.iload 6, 2) := by decide +kernel
theorem dX0_make_67 : decode cX0_make 67 = .ok (.iaload, 1) := by decide +kernel
theorem dX0_make_68 : decode cX0_make 68 = .ok (.aload_n 2, 1) := by decide +kernel
theorem dX0_make_69 : decode cX0_make 69 = .ok (.iload 6, 2) := by decide +kernel
theorem dX0_make_71 : decode cX0_make 71 = .ok (.iaload, 1) := by decide +kernel
theorem dX0_make_72 : decode cX0_make 72 = .ok (.iload_n 3, 1) := by decide +kernel
theorem dX0_make_73 : decode cX0_make 73 = .ok (.invokevirtual 48, 3) := by decide +kernel
theorem dX0_make_76 : decode cX0_make 76 = .ok (.iinc 5 1, 3) := by decide +kernel
theorem dX0_make_79 : decode cX0_make 79 = .ok (.goto (-42), 3) := by decide +kernel
theorem dX0_make_82 : decode cX0_make 82 = .ok (.aload_n 0, 1) := by decide +kernel
theorem dX0_make_83 : decode cX0_make 83 = .ok (.getfield 17, 3) := by decide +kernel
theorem dX0_make_86 : decode cX0_make 86 = .ok (.iload 4, 2) := by decide +kernel
theorem dX0_make_88 : decode cX0_make 88 = .ok (.aaload, 1) := by decide +kernel
theorem dX0_make_89 : decode cX0_make 89 = .ok (.iload_n 3, 1) := by decide +kernel
theorem dX0_make_90 : decode cX0_make 90 = .ok (.iaload, 1) := by decide +kernel
theorem dX0_make_91 : decode cX0_make 91 = .ok (.iconst (-1), 1) := by decide +kernel
theorem dX0_make_92 : decode cX0_make 92 = .ok (.if_icmp .ne 5, 3) := by decide +kernel
theorem dX0_make_95 : decode cX0_make 95 = .ok (.iconst 0, 1) := by decide +kernel
theorem dX0_make_96 : decode cX0_make 96 = .ok (.ireturn, 1) := by decide +kernel
theorem dX0_make_97 : decode cX0_make 97 = .ok (.aload_n 0, 1) := by decide +kernel
theorem dX0_make_98 : decode cX0_make 98 = .ok (.aload_n 1, 1) := by decide +kernel
theorem dX0_make_99 : decode cX0_make 99 = .ok (.aload_n 2, 1) := by decide +kernel
theorem dX0_make_100 : decode cX0_make 100 = .ok (.iload_n 3, 1) := by decide +kernel
theorem dX0_make_101 : decode cX0_make 101 = .ok (.invokevirtual 52, 3) := by decide +kernel
theorem dX0_make_104 : decode cX0_make 104 = .ok (.iconst 1, 1) := by decide +kernel
theorem dX0_make_105 : decode cX0_make 105 = .ok (.ireturn, 1) := by decide +kernel
theorem dX0_allow_0 : decode cX0_allow 0 = .ok (.iconst 0, 1) := by decide +kernel
theorem dX0_allow_1 : decode cX0_allow 1 = .ok (.istore 5, 2) := by decide +kernel
theorem dX0_allow_3 : decode cX0_allow 3 = .ok (.iload 5, 2) := by decide +kernel
theorem dX0_allow_5 : decode cX0_allow 5 = .ok (.iload_n 2, 1) := by decide +kernel
theorem dX0_allow_6 : decode cX0_allow 6 = .ok (.if_icmp .ge 40, 3) := by decide +kernel
theorem dX0_allow_9 : decode cX0_allow 9 = .ok (.iload 5, 2) := by decide +kernel
theorem dX0_allow_11 : decode cX0_allow 11 = .ok (.iload 4, 2) := by decide +kernel
theorem dX0_allow_13 : decode cX0_allow 13 = .ok (.if_icmp .gt 33, 3) := by decide +kernel
theorem dX0_allow_16 : decode cX0_allow 16 = .ok (.aload_n 0, 1) := by decide +kernel
theorem dX0_allow_17 : decode cX0_allow 17 = .ok (.aload_n 0, 1) := by decide +kernel
theorem dX0_allow_18 : decode cX0_allow 18 = .ok (.getfield 17, 3) := by decide +kernel
theorem dX0_allow_21 : decode cX0_allow 21 = .ok (.iload_n 1, 1) := by decide +kernel
theorem dX0_allow_22 : decode cX0_allow 22 = .ok (.aaload, 1) := by decide +kernel
theorem dX0_allow_23 : decode cX0_allow 23 = .ok (.aload_n 0, 1) := by decide +kernel
theorem dX0_allow_24 : decode cX0_allow 24 = .ok (.getfield 17, 3) := by decide +kernel
theorem dX0_allow_27 : decode cX0_allow 27 = .ok (.iload_n 1, 1) := by decide +kernel
theorem dX0_allow_28 : decode cX0_allow 28 = .ok (.iconst 1, 1) := by decide +kernel
theorem dX0_allow_29 : decode cX0_allow 29 = .ok (.iadd, 1) := by decide +kernel
theorem dX0_allow_30 : decode cX0_allow 30 = .ok (.aaload, 1) := by decide +kernel
theorem dX0_allow_31 : decode cX0_allow 31 = .ok (.iload 5, 2) := by decide +kernel
theorem dX0_allow_33 : decode cX0_allow 33 = .ok (.iload_n 2, 1) := by decide +kernel
theorem dX0_allow_34 : decode cX0_allow 34 = .ok (.iload_n 3, 1) := by decide +kernel
theorem dX0_allow_35 : decode cX0_allow 35 = .ok (.iload 4, 2) := by decide +kernel
theorem dX0_allow_37 : decode cX0_allow 37 = .ok (.invokevirtual 56, 3) := by decide +kernel
theorem dX0_allow_40 : decode cX0_allow 40 = .ok (.iinc 5 1, 3) := by decide +kernel
theorem dX0_allow_43 : decode cX0_allow 43 = .ok (.goto (-40), 3) := by decide +kernel
theorem dX0_allow_46 : decode cX0_allow 46 = .ok (.return_, 1) := by decide +kernel
theorem dX0_slide_0 : decode cX0_slide 0 = .ok (.iconst 0, 1) := by decide +kernel
theorem dX0_slide_1 : decode cX0_slide 1 = .ok (.istore 7, 2) := by decide +kernel
theorem dX0_slide_3 : decode cX0_slide 3 = .ok (.iconst 0, 1) := by decide +kernel
theorem dX0_slide_4 : decode cX0_slide 4 = .ok (.istore 8, 2) := by decide +kernel
theorem dX0_slide_6 : decode cX0_slide 6 = .ok (.iconst 0, 1) := by decide +kernel
theorem dX0_slide_7 : decode cX0_slide 7 = .ok (.istore 9, 2) := by decide +kernel
theorem dX0_slide_9 : decode cX0_slide 9 = .ok (.iload_n 3, 1) := by decide +kernel
theorem dX0_slide_10 : decode cX0_slide 10 = .ok (.istore 10, 2) := by decide +kernel
theorem dX0_slide_12 : decode cX0_slide 12 = .ok (.iload 10, 2) := by decide +kernel
theorem dX0_slide_14 : decode cX0_slide 14 = .ok (.iload 6, 2) := by decide +kernel
theorem dX0_slide_16 : decode cX0_slide 16 = .ok (.if_icmp .gt 131, 3) := by decide +kernel
theorem dX0_slide_19 : decode cX0_slide 19 = .ok (.aload_n 1, 1) := by decide +kernel
theorem dX0_slide_20 : decode cX0_slide 20 = .ok (.iload 10, 2) := by decide +kernel
theorem dX0_slide_22 : decode cX0_slide 22 = .ok (.iaload, 1) := by decide +kernel
theorem dX0_slide_23 : decode cX0_slide 23 = .ok (.iconst (-1), 1) := by decide +kernel
theorem dX0_slide_24 : decode cX0_slide 24 = .ok (.if_icmp .eq 60, 3) := by decide +kernel
theorem dX0_slide_27 : decode cX0_slide 27 = .ok (.aload_n 1, 1) := by decide +kernel
theorem dX0_slide_28 : decode cX0_slide 28 = .ok (.iload 10, 2) := by decide +kernel
theorem dX0_slide_30 : decode cX0_slide 30 = .ok (.iaload, 1) := by decide +kernel
theorem dX0_slide_31 : decode cX0_slide 31 = .ok (.iload 9, 2) := by decide +kernel
theorem dX0_slide_33 : decode cX0_slide 33 = .ok (.isub, 1) := by decide +kernel
theorem dX0_slide_34 : decode cX0_slide 34 = .ok (.istore 11, 2) := by decide +kernel
theorem dX0_slide_36 : decode cX0_slide 36 = .ok (.iload 8, 2) := by decide +kernel
theorem dX0_slide_38 : decode cX0_slide 38 = .ok (.iload 7, 2) := by decide +kernel
theorem dX0_slide_40 : decode cX0_slide 40 = .ok (.if_icmp .le 23, 3) := by decide +kernel
theorem dX0_slide_43 : decode cX0_slide 43 = .ok (.aload_n 0, 1) := by decide +kernel
theorem dX0_slide_44 : decode cX0_slide 44 = .ok (.getfield 23, 3) := by decide +kernel
theorem dX0_slide_47 : decode cX0_slide 47 = .ok (.iload 8, 2) := by decide +kernel
theorem dX0_slide_49 : decode cX0_slide 49 = .ok (.iconst 1, 1) := by decide +kernel
theorem dX0_slide_50 : decode cX0_slide 50 = .ok (.isub, 1) := by decide +kernel
theorem dX0_slide_51 : decode cX0_slide 51 = .ok (.iaload, 1) := by decide +kernel
theorem dX0_slide_52 : decode cX0_slide 52 = .ok (.iload 11, 2) := by decide +kernel
theorem dX0_slide_54 : decode cX0_slide 54 = .ok (.if_icmp .lt 9, 3) := by decide +kernel
theorem dX0_slide_57 : decode cX0_slide 57 = .ok (.iinc 8 (-1), 3) := by decide +kernel
theorem dX0_slide_60 : decode cX0_slide 60 = .ok (.goto (-24), 3) := by decide +kernel
theorem dX0_slide_63 : decode cX0_slide 63 = .ok (.aload_n 0, 1) := by decide +kernel
theorem dX0_slide_64 : decode cX0_slide 64 = .ok (.getfield 20, 3) := by decide +kernel
theorem dX0_slide_67 : decode cX0_slide 67 = .ok (.iload 8, 2) := by decide +kernel
theorem dX0_slide_69 : decode cX0_slide 69 = .ok (.iload 9, 2) := by decide +kernel
theorem dX0_slide_71 : decode cX0_slide 71 = .ok (.iastore, 1) := by decide +kernel
theorem dX0_slide_72 : decode cX0_slide 72 = .ok (.aload_n 0, 1) := by decide +kernel
theorem dX0_slide_73 : decode cX0_slide 73 = .ok (.getfield 23, 3) := by decide +kernel
theorem dX0_slide_76 : decode cX0_slide 76 = .ok (.iload 8, 2) := by decide +kernel
theorem dX0_slide_78 : decode cX0_slide 78 = .ok (.iload 11, 2) := by decide +kernel
theorem dX0_slide_80 : decode cX0_slide 80 = .ok (.iastore, 1) := by decide +kernel
theorem dX0_slide_81 : decode cX0_slide 81 = .ok (.iinc 8 1, 3) := by decide +kernel
theorem dX0_slide_84 : decode cX0_slide 84 = .ok (.iload 7, 2) := by decide +kernel
theorem dX0_slide_86 : decode cX0_slide 86 = .ok (.iload 8, 2) := by decide +kernel
theorem dX0_slide_88 : decode cX0_slide 88 = .ok (.if_icmp .ge 21, 3) := by decide +kernel
theorem dX0_slide_91 : decode cX0_slide 91 = .ok (.aload_n 0, 1) := by decide +kernel
theorem dX0_slide_92 : decode cX0_slide 92 = .ok (.getfield 20, 3) := by decide +kernel
theorem dX0_slide_95 : decode cX0_slide 95 = .ok (.iload 7, 2) := by decide +kernel
theorem dX0_slide_97 : decode cX0_slide 97 = .ok (.iaload, 1) := by decide +kernel
theorem dX0_slide_98 : decode cX0_slide 98 = .ok (.iload 9, 2) := by decide +kernel
theorem dX0_slide_100 : decode cX0_slide 100 = .ok (.iload 5, 2) := by decide +kernel
theorem dX0_slide_102 : decode cX0_slide 102 = .ok (.isub, 1) := by decide +kernel
theorem dX0_slide_103 : decode cX0_slide 103 = .ok (.if_icmp .ge 6, 3) := by decide +kernel
theorem dX0_slide_106 : decode cX0_slide 106 = .ok (.iinc 7 1, 3) := by decide +kernel
theorem dX0_slide_109 : decode cX0_slide 109 = .ok (.aload_n 2, 1) := by decide +kernel
theorem dX0_slide_110 : decode cX0_slide 110 = .ok (.iload 10, 2) := by decide +kernel
theorem dX0_slide_112 : decode cX0_slide 112 = .ok (.iload 7, 2) := by decide +kernel
theorem dX0_slide_114 : decode cX0_slide 114 = .ok (.iload 8, 2) := by decide +kernel
theorem dX0_slide_116 : decode cX0_slide 116 = .ok (.if_icmp .ge 16, 3) := by decide +kernel
theorem dX0_slide_119 : decode cX0_slide 119 = .ok (.aload_n 0, 1) := by decide +kernel
theorem dX0_slide_120 : decode cX0_slide 120 = .ok (.getfield 23, 3) := by decide +kernel
theorem dX0_slide_123 : decode cX0_slide 123 = .ok (.iload 7, 2) := by decide +kernel
theorem dX0_slide_125 : decode cX0_slide 125 = .ok (.iaload, 1) := by decide +kernel
theorem dX0_slide_126 : decode cX0_slide 126 = .ok (.iload 9, 2) := by decide +kernel
theorem dX0_slide_128 : decode cX0_slide 128 = .ok (.iadd, 1) := by decide +kernel
theorem dX0_slide_129 : decode cX0_slide 129 = .ok (.goto 4, 3) := by decide +kernel
theorem dX0_slide_132 : decode cX0_slide 132 = .ok (.iconst (-1), 1) := by decide +kernel
theorem dX0_slide_133 : decode cX0_slide 133 = .ok (.iastore, 1) := by decide +kernel
theorem dX0_slide_134 : decode cX0_slide 134 = .ok (.iinc 9 1, 3) := by decide +kernel
theorem dX0_slide_137 : decode cX0_slide 137 = .ok (.iload 10, 2) := by decide +kernel
theorem dX0_slide_139 : decode cX0_slide 139 = .ok (.iload 4, 2) := by decide +kernel
theorem dX0_slide_141 : decode cX0_slide 141 = .ok (.iadd, 1) := by decide +kernel
theorem dX0_slide_142 : decode cX0_slide 142 = .ok (.istore 10, 2) := by decide +kernel
theorem dX0_slide_144 : decode cX0_slide 144 = .ok (.goto (-132), 3) := by decide +kernel
theorem dX0_slide_147 : decode cX0_slide 147 = .ok (.return_, 1) := by decide +kernel
theorem dX0_writeRow_0 : decode cX0_writeRow 0 = .ok (.aload_n 0, 1) := by decide +kernel
theorem dX0_writeRow_1 : decode cX0_writeRow 1 = .ok (.getfield 9, 3) := by decide +kernel
theorem dX0_writeRow_4 : decode cX0_writeRow 4 = .ok (.iconst 0, 1) := by decide +kernel
theorem dX0_writeRow_5 : decode cX0_writeRow 5 = .ok (.invokestatic 30, 3) := by decide +kernel
theorem dX0_writeRow_8 : decode cX0_writeRow 8 = .ok (.iload_n 3, 1) := by decide +kernel
theorem dX0_writeRow_9 : decode cX0_writeRow 9 = .ok (.istore 4, 2) := by decide +kernel
theorem dX0_writeRow_11 : decode cX0_writeRow 11 = .ok (.aload_n 1, 1) := by decide +kernel
theorem dX0_writeRow_12 : decode cX0_writeRow 12 = .ok (.getfield 36, 3) := by decide +kernel
theorem dX0_writeRow_15 : decode cX0_writeRow 15 = .ok (.istore 5, 2) := by decide +kernel
theorem dX0_writeRow_17 : decode cX0_writeRow 17 = .ok (.iload 5, 2) := by decide +kernel
theorem dX0_writeRow_19 : decode cX0_writeRow 19 = .ok (.ifCond .le 99, 3) := by decide +kernel
theorem dX0_writeRow_22 : decode cX0_writeRow 22 = .ok (.aload_n 1, 1) := by decide +kernel
theorem dX0_writeRow_23 : decode cX0_writeRow 23 = .ok (.getfield 42, 3) := by decide +kernel
theorem dX0_writeRow_26 : decode cX0_writeRow 26 = .ok (.aload_n 1, 1) := by decide +kernel
theorem dX0_writeRow_27 : decode cX0_writeRow 27 = .ok (.getfield 36, 3) := by decide +kernel
theorem dX0_writeRow_30 : decode cX0_writeRow 30 = .ok (.iload 5, 2) := by decide +kernel
theorem dX0_writeRow_32 : decode cX0_writeRow 32 = .ok (.isub, 1) := by decide +kernel
theorem dX0_writeRow_33 : decode cX0_writeRow 33 = .ok (.iaload, 1) := by decide +kernel
theorem dX0_writeRow_34 : decode cX0_writeRow 34 = .ok (.istore 6, 2) := by decide +kernel
theorem dX0_writeRow_36 : decode cX0_writeRow 36 = .ok (.aload_n 1, 1) := by decide +kernel
theorem dX0_writeRow_37 : decode cX0_writeRow 37 = .ok (.getfield 45, 3) := by decide +kernel
theorem dX0_writeRow_40 : decode cX0_writeRow 40 = .ok (.iload 6, 2) := by decide +kernel
theorem dX0_writeRow_42 : decode cX0_writeRow 42 = .ok (.iaload, 1) := by decide +kernel
theorem dX0_writeRow_43 : decode cX0_writeRow 43 = .ok (.istore 7, 2) := by decide +kernel
theorem dX0_writeRow_45 : decode cX0_writeRow 45 = .ok (.aload_n 2, 1) := by decide +kernel
theorem dX0_writeRow_46 : decode cX0_writeRow 46 = .ok (.iload 6, 2) := by decide +kernel
theorem dX0_writeRow_48 : decode cX0_writeRow 48 = .ok (.iaload, 1) := by decide +kernel
theorem dX0_writeRow_49 : decode cX0_writeRow 49 = .ok (.iload 4, 2) := by decide +kernel
theorem dX0_writeRow_51 : decode cX0_writeRow 51 = .ok (.iload 7, 2) := by decide +kernel
theorem dX0_writeRow_53 : decode cX0_writeRow 53 = .ok (.invokestatic 60, 3) := by decide +kernel
theorem dX0_writeRow_56 : decode cX0_writeRow 56 = .ok (.invokestatic 64, 3) := by decide +kernel
theorem dX0_writeRow_59 : decode cX0_writeRow 59 = .ok (.istore 8, 2) := by decide +kernel
theorem dX0_writeRow_61 : decode cX0_writeRow 61 = .ok (.iload 8, 2) := by decide +kernel
theorem dX0_writeRow_63 : decode cX0_writeRow 63 = .ok (.ifCond .le 30, 3) := by decide +kernel
theorem dX0_writeRow_66 : decode cX0_writeRow 66 = .ok (.aload_n 0, 1) := by decide +kernel
theorem dX0_writeRow_67 : decode cX0_writeRow 67 = .ok (.iload 5, 2) := by decide +kernel
theorem dX0_writeRow_69 : decode cX0_writeRow 69 = .ok (.iload 4, 2) := by decide +kernel
theorem dX0_writeRow_71 : decode cX0_writeRow 71 = .ok (.iload 4, 2) := by decide +kernel
theorem dX0_writeRow_73 : decode cX0_writeRow 73 = .ok (.iload 8, 2) := by decide +kernel
theorem dX0_writeRow_75 : decode cX0_writeRow 75 = .ok (.iload 7, 2) := by decide +kernel
theorem dX0_writeRow_77 : decode cX0_writeRow 77 = .ok (.imul, 1) := by decide +kernel
theorem dX0_writeRow_78 : decode cX0_writeRow 78 = .ok (.isub, 1) := by decide +kernel
theorem dX0_writeRow_79 : decode cX0_writeRow 79 = .ok (.iload 8, 2) := by decide +kernel
theorem dX0_writeRow_81 : decode cX0_writeRow 81 = .ok (.invokevirtual 69, 3) := by decide +kernel
theorem dX0_writeRow_84 : decode cX0_writeRow 84 = .ok (.ifCond .ne 9, 3) := by decide +kernel
theorem dX0_writeRow_87 : decode cX0_writeRow 87 = .ok (.iinc 8 (-1), 3) := by decide +kernel
theorem dX0_writeRow_90 : decode cX0_writeRow 90 = .ok (.goto (-29), 3) := by decide +kernel
theorem dX0_writeRow_93 : decode cX0_writeRow 93 = .ok (.aload_n 0, 1) := by decide +kernel
theorem dX0_writeRow_94 : decode cX0_writeRow 94 = .ok (.getfield 9, 3) := by decide +kernel
theorem dX0_writeRow_97 : decode cX0_writeRow 97 = .ok (.iload 6, 2) := by decide +kernel
theorem dX0_writeRow_99 : decode cX0_writeRow 99 = .ok (.iload 8, 2) := by decide +kernel
theorem dX0_writeRow_101 : decode cX0_writeRow 101 = .ok (.iastore, 1) := by decide +kernel
theorem dX0_writeRow_102 : decode cX0_writeRow 102 = .ok (.iload 4, 2) := by decide +kernel
theorem dX0_writeRow_104 : decode cX0_writeRow 104 = .ok (.iload 8, 2) := by decide +kernel
theorem dX0_writeRow_106 : decode cX0_writeRow 106 = .ok (.iload 7, 2) := by decide +kernel
theorem dX0_writeRow_108 : decode cX0_writeRow 108 = .ok (.imul, 1) := by decide +kernel
theorem dX0_writeRow_109 : decode cX0_writeRow 109 = .ok (.isub, 1) := by decide +kernel
theorem dX0_writeRow_110 : decode cX0_writeRow 110 = .ok (.istore 4, 2) := by decide +kernel
theorem dX0_writeRow_112 : decode cX0_writeRow 112 = .ok (.iinc 5 (-1), 3) := by decide +kernel
theorem dX0_writeRow_115 : decode cX0_writeRow 115 = .ok (.goto (-98), 3) := by decide +kernel
theorem dX0_writeRow_118 : decode cX0_writeRow 118 = .ok (.return_, 1) := by decide +kernel
theorem dX0_leadsOn_0 : decode cX0_leadsOn 0 = .ok (.aload_n 0, 1) := by decide +kernel
theorem dX0_leadsOn_1 : decode cX0_leadsOn 1 = .ok (.getfield 17, 3) := by decide +kernel
theorem dX0_leadsOn_4 : decode cX0_leadsOn 4 = .ok (.iload_n 1, 1) := by decide +kernel
theorem dX0_leadsOn_5 : decode cX0_leadsOn 5 = .ok (.iconst 1, 1) := by decide +kernel
theorem dX0_leadsOn_6 : decode cX0_leadsOn 6 = .ok (.isub, 1) := by decide +kernel
theorem dX0_leadsOn_7 : decode cX0_leadsOn 7 = .ok (.aaload, 1) := by decide +kernel
theorem dX0_leadsOn_8 : decode cX0_leadsOn 8 = .ok (.iload_n 3, 1) := by decide +kernel
theorem dX0_leadsOn_9 : decode cX0_leadsOn 9 = .ok (.iaload, 1) := by decide +kernel
theorem dX0_leadsOn_10 : decode cX0_leadsOn 10 = .ok (.iconst (-1), 1) := by decide +kernel
theorem dX0_leadsOn_11 : decode cX0_leadsOn 11 = .ok (.if_icmp .eq 31, 3) := by decide +kernel
theorem dX0_leadsOn_14 : decode cX0_leadsOn 14 = .ok (.aload_n 0, 1) := by decide +kernel
theorem dX0_leadsOn_15 : decode cX0_leadsOn 15 = .ok (.getfield 17, 3) := by decide +kernel
theorem dX0_leadsOn_18 : decode cX0_leadsOn 18 = .ok (.iload_n 1, 1) := by decide +kernel
theorem dX0_leadsOn_19 : decode cX0_leadsOn 19 = .ok (.iconst 1, 1) := by decide +kernel
theorem dX0_leadsOn_20 : decode cX0_leadsOn 20 = .ok (.isub, 1) := by decide +kernel
theorem dX0_leadsOn_21 : decode cX0_leadsOn 21 = .ok (.aaload, 1) := by decide +kernel
theorem dX0_leadsOn_22 : decode cX0_leadsOn 22 = .ok (.iload_n 3, 1) := by decide +kernel
theorem dX0_leadsOn_23 : decode cX0_leadsOn 23 = .ok (.iaload, 1) := by decide +kernel
theorem dX0_leadsOn_24 : decode cX0_leadsOn 24 = .ok (.iload 4, 2) := by decide +kernel
theorem dX0_leadsOn_26 : decode cX0_leadsOn 26 = .ok (.iadd, 1) := by decide +kernel
theorem dX0_leadsOn_27 : decode cX0_leadsOn 27 = .ok (.aload_n 0, 1) := by decide +kernel
theorem dX0_leadsOn_28 : decode cX0_leadsOn 28 = .ok (.getfield 17, 3) := by decide +kernel
theorem dX0_leadsOn_31 : decode cX0_leadsOn 31 = .ok (.iload_n 1, 1) := by decide +kernel
theorem dX0_leadsOn_32 : decode cX0_leadsOn 32 = .ok (.aaload, 1) := by decide +kernel
theorem dX0_leadsOn_33 : decode cX0_leadsOn 33 = .ok (.iload_n 2, 1) := by decide +kernel
theorem dX0_leadsOn_34 : decode cX0_leadsOn 34 = .ok (.iaload, 1) := by decide +kernel
theorem dX0_leadsOn_35 : decode cX0_leadsOn 35 = .ok (.if_icmp .ne 7, 3) := by decide +kernel
theorem dX0_leadsOn_38 : decode cX0_leadsOn 38 = .ok (.iconst 1, 1) := by decide +kernel
theorem dX0_leadsOn_39 : decode cX0_leadsOn 39 = .ok (.goto 4, 3) := by decide +kernel
theorem dX0_leadsOn_42 : decode cX0_leadsOn 42 = .ok (.iconst 0, 1) := by decide +kernel
theorem dX0_leadsOn_43 : decode cX0_leadsOn 43 = .ok (.ireturn, 1) := by decide +kernel
theorem dX1_init_0 : decode cX1_init 0 = .ok (.aload_n 0, 1) := by decide +kernel
theorem dX1_init_1 : decode cX1_init 1 = .ok (.invokespecial 3, 3) := by decide +kernel
theorem dX1_init_4 : decode cX1_init 4 = .ok (.aload_n 0, 1) := by decide +kernel
theorem dX1_init_5 : decode cX1_init 5 = .ok (.iconst 0, 1) := by decide +kernel
theorem dX1_init_6 : decode cX1_init 6 = .ok (.putfield 9, 3) := by decide +kernel
theorem dX1_init_9 : decode cX1_init 9 = .ok (.aload_n 0, 1) := by decide +kernel
theorem dX1_init_10 : decode cX1_init 10 = .ok (.bipush 8, 2) := by decide +kernel
theorem dX1_init_12 : decode cX1_init 12 = .ok (.newarray .int, 2) := by decide +kernel
theorem dX1_init_14 : decode cX1_init 14 = .ok (.putfield 15, 3) := by decide +kernel
theorem dX1_init_17 : decode cX1_init 17 = .ok (.aload_n 0, 1) := by decide +kernel
theorem dX1_init_18 : decode cX1_init 18 = .ok (.bipush 8, 2) := by decide +kernel
theorem dX1_init_20 : decode cX1_init 20 = .ok (.newarray .int, 2) := by decide +kernel
theorem dX1_init_22 : decode cX1_init 22 = .ok (.putfield 19, 3) := by decide +kernel
theorem dX1_init_25 : decode cX1_init 25 = .ok (.aload_n 0, 1) := by decide +kernel
theorem dX1_init_26 : decode cX1_init 26 = .ok (.sipush 2001, 3) := by decide +kernel
theorem dX1_init_29 : decode cX1_init 29 = .ok (.newarray .int, 2) := by decide +kernel
theorem dX1_init_31 : decode cX1_init 31 = .ok (.putfield 22, 3) := by decide +kernel
theorem dX1_init_34 : decode cX1_init 34 = .ok (.aload_n 0, 1) := by decide +kernel
theorem dX1_init_35 : decode cX1_init 35 = .ok (.getfield 22, 3) := by decide +kernel
theorem dX1_init_38 : decode cX1_init 38 = .ok (.iconst (-1), 1) := by decide +kernel
theorem dX1_init_39 : decode cX1_init 39 = .ok (.invokestatic 25, 3) := by decide +kernel
theorem dX1_init_42 : decode cX1_init 42 = .ok (.aload_n 0, 1) := by decide +kernel
theorem dX1_init_43 : decode cX1_init 43 = .ok (.getfield 22, 3) := by decide +kernel
theorem dX1_init_46 : decode cX1_init 46 = .ok (.iconst 0, 1) := by decide +kernel
theorem dX1_init_47 : decode cX1_init 47 = .ok (.iconst 0, 1) := by decide +kernel
theorem dX1_init_48 : decode cX1_init 48 = .ok (.iastore, 1) := by decide +kernel
theorem dX1_init_49 : decode cX1_init 49 = .ok (.return_, 1) := by decide +kernel
theorem dX1_copyFrom_0 : decode cX1_copyFrom 0 = .ok (.aload_n 0, 1) := by decide +kernel
theorem dX1_copyFrom_1 : decode cX1_copyFrom 1 = .ok (.aload_n 1, 1) := by decide +kernel
theorem dX1_copyFrom_2 : decode cX1_copyFrom 2 = .ok (.getfield 9, 3) := by decide +kernel
theorem dX1_copyFrom_5 : decode cX1_copyFrom 5 = .ok (.putfield 9, 3) := by decide +kernel
theorem dX1_copyFrom_8 : decode cX1_copyFrom 8 = .ok (.aload_n 1, 1) := by decide +kernel
theorem dX1_copyFrom_9 : decode cX1_copyFrom 9 = .ok (.getfield 15, 3) := by decide +kernel
theorem dX1_copyFrom_12 : decode cX1_copyFrom 12 = .ok (.iconst 0, 1) := by decide +kernel
theorem dX1_copyFrom_13 : decode cX1_copyFrom 13 = .ok (.aload_n 0, 1) := by decide +kernel
theorem dX1_copyFrom_14 : decode cX1_copyFrom 14 = .ok (.getfield 15, 3) := by decide +kernel
theorem dX1_copyFrom_17 : decode cX1_copyFrom 17 = .ok (.iconst 0, 1) := by decide +kernel
theorem dX1_copyFrom_18 : decode cX1_copyFrom 18 = .ok (.bipush 8, 2) := by decide +kernel
theorem dX1_copyFrom_20 : decode cX1_copyFrom 20 = .ok (.invokestatic 31, 3) := by decide +kernel
theorem dX1_copyFrom_23 : decode cX1_copyFrom 23 = .ok (.aload_n 1, 1) := by decide +kernel
theorem dX1_copyFrom_24 : decode cX1_copyFrom 24 = .ok (.getfield 19, 3) := by decide +kernel
theorem dX1_copyFrom_27 : decode cX1_copyFrom 27 = .ok (.iconst 0, 1) := by decide +kernel
theorem dX1_copyFrom_28 : decode cX1_copyFrom 28 = .ok (.aload_n 0, 1) := by decide +kernel
theorem dX1_copyFrom_29 : decode cX1_copyFrom 29 = .ok (.getfield 19, 3) := by decide +kernel
theorem dX1_copyFrom_32 : decode cX1_copyFrom 32 = .ok (.iconst 0, 1) := by decide +kernel
theorem dX1_copyFrom_33 : decode cX1_copyFrom 33 = .ok (.bipush 8, 2) := by decide +kernel
theorem dX1_copyFrom_35 : decode cX1_copyFrom 35 = .ok (.invokestatic 31, 3) := by decide +kernel
theorem dX1_copyFrom_38 : decode cX1_copyFrom 38 = .ok (.aload_n 1, 1) := by decide +kernel
theorem dX1_copyFrom_39 : decode cX1_copyFrom 39 = .ok (.getfield 22, 3) := by decide +kernel
theorem dX1_copyFrom_42 : decode cX1_copyFrom 42 = .ok (.iconst 0, 1) := by decide +kernel
theorem dX1_copyFrom_43 : decode cX1_copyFrom 43 = .ok (.aload_n 0, 1) := by decide +kernel
theorem dX1_copyFrom_44 : decode cX1_copyFrom 44 = .ok (.getfield 22, 3) := by decide +kernel
theorem dX1_copyFrom_47 : decode cX1_copyFrom 47 = .ok (.iconst 0, 1) := by decide +kernel
theorem dX1_copyFrom_48 : decode cX1_copyFrom 48 = .ok (.sipush 2001, 3) := by decide +kernel
theorem dX1_copyFrom_51 : decode cX1_copyFrom 51 = .ok (.invokestatic 31, 3) := by decide +kernel
theorem dX1_copyFrom_54 : decode cX1_copyFrom 54 = .ok (.return_, 1) := by decide +kernel
theorem dX1_isCoin_0 : decode cX1_isCoin 0 = .ok (.iconst 0, 1) := by decide +kernel
theorem dX1_isCoin_1 : decode cX1_isCoin 1 = .ok (.iload_n 1, 1) := by decide +kernel
theorem dX1_isCoin_2 : decode cX1_isCoin 2 = .ok (.aload_n 0, 1) := by decide +kernel
theorem dX1_isCoin_3 : decode cX1_isCoin 3 = .ok (.getfield 9, 3) := by decide +kernel
theorem dX1_isCoin_6 : decode cX1_isCoin 6 = .ok (.iconst 1, 1) := by decide +kernel
theorem dX1_isCoin_7 : decode cX1_isCoin 7 = .ok (.isub, 1) := by decide +kernel
theorem dX1_isCoin_8 : decode cX1_isCoin 8 = .ok (.invokestatic 37, 3) := by decide +kernel
theorem dX1_isCoin_11 : decode cX1_isCoin 11 = .ok (.ireturn, 1) := by decide +kernel
theorem dX1_add_0 : decode cX1_add 0 = .ok (.aload_n 0, 1) := by decide +kernel
theorem dX1_add_1 : decode cX1_add 1 = .ok (.getfield 9, 3) := by decide +kernel
theorem dX1_add_4 : decode cX1_add 4 = .ok (.bipush 8, 2) := by decide +kernel
theorem dX1_add_6 : decode cX1_add 6 = .ok (.if_icmp .ge 22, 3) := by decide +kernel
theorem dX1_add_9 : decode cX1_add 9 = .ok (.iconst 1, 1) := by decide +kernel
theorem dX1_add_10 : decode cX1_add 10 = .ok (.iload_n 1, 1) := by decide +kernel
theorem dX1_add_11 : decode cX1_add 11 = .ok (.sipush 1000, 3) := by decide +kernel
theorem dX1_add_14 : decode cX1_add 14 = .ok (.invokestatic 37, 3) := by decide +kernel
theorem dX1_add_17 : decode cX1_add 17 = .ok (.ifCond .eq 11, 3) := by decide +kernel
theorem dX1_add_20 : decode cX1_add 20 = .ok (.aload_n 0, 1) := by decide +kernel
theorem dX1_add_21 : decode cX1_add 21 = .ok (.iload_n 1, 1) := by decide +kernel
theorem dX1_add_22 : decode cX1_add 22 = .ok (.invokevirtual 41, 3) := by decide +kernel
theorem dX1_add_25 : decode cX1_add 25 = .ok (.ifCond .eq 5, 3) := by decide +kernel
theorem dX1_add_28 : decode cX1_add 28 = .ok (.iconst (-1), 1) := by decide +kernel
theorem dX1_add_29 : decode cX1_add 29 = .ok (.ireturn, 1) := by decide +kernel
theorem dX1_add_30 : decode cX1_add 30 = .ok (.aload_n 0, 1) := by decide +kernel
theorem dX1_add_31 : decode cX1_add 31 = .ok (.getfield 15, 3) := by decide +kernel
theorem dX1_add_34 : decode cX1_add 34 = .ok (.aload_n 0, 1) := by decide +kernel
theorem dX1_add_35 : decode cX1_add 35 = .ok (.getfield 9, 3) := by decide +kernel
theorem dX1_add_38 : decode cX1_add 38 = .ok (.iload_n 1, 1) := by decide +kernel
theorem dX1_add_39 : decode cX1_add 39 = .ok (.iastore, 1) := by decide +kernel
theorem dX1_add_40 : decode cX1_add 40 = .ok (.aload_n 0, 1) := by decide +kernel
theorem dX1_add_41 : decode cX1_add 41 = .ok (.aload_n 0, 1) := by decide +kernel
theorem dX1_add_42 : decode cX1_add 42 = .ok (.getfield 9, 3) := by decide +kernel
theorem dX1_add_45 : decode cX1_add 45 = .ok (.invokevirtual 45, 3) := by decide +kernel
theorem dX1_add_48 : decode cX1_add 48 = .ok (.aload_n 0, 1) := by decide +kernel
theorem dX1_add_49 : decode cX1_add 49 = .ok (.iload_n 1, 1) := by decide +kernel
theorem dX1_add_50 : decode cX1_add 50 = .ok (.invokevirtual 49, 3) := by decide +kernel
theorem dX1_add_53 : decode cX1_add 53 = .ok (.aload_n 0, 1) := by decide +kernel
theorem dX1_add_54 : decode cX1_add 54 = .ok (.dup, 1) := by decide +kernel
theorem dX1_add_55 : decode cX1_add 55 = .ok (.getfield 9, 3) := by decide +kernel
theorem dX1_add_58 : decode cX1_add 58 = .ok (.iconst 1, 1) := by decide +kernel
theorem dX1_add_59 : decode cX1_add 59 = .ok (.iadd, 1) := by decide +kernel
theorem dX1_add_60 : decode cX1_add 60 = .ok (.putfield 9, 3) := by decide +kernel
theorem dX1_add_63 : decode cX1_add 63 = .ok (.aload_n 0, 1) := by decide +kernel
theorem dX1_add_64 : decode cX1_add 64 = .ok (.getfield 9, 3) := by decide +kernel
theorem dX1_add_67 : decode cX1_add 67 = .ok (.iconst 1, 1) := by decide +kernel
theorem dX1_add_68 : decode cX1_add 68 = .ok (.isub, 1) := by decide +kernel
theorem dX1_add_69 : decode cX1_add 69 = .ok (.ireturn, 1) := by decide +kernel
theorem dX1_isValue_0 : decode cX1_isValue 0 = .ok (.iconst 0, 1) := by decide +kernel
theorem dX1_isValue_1 : decode cX1_isValue 1 = .ok (.istore_n 2, 1) := by decide +kernel
theorem dX1_isValue_2 : decode cX1_isValue 2 = .ok (.iload_n 2, 1) := by decide +kernel
theorem dX1_isValue_3 : decode cX1_isValue 3 = .ok (.aload_n 0, 1) := by decide +kernel
theorem dX1_isValue_4 : decode cX1_isValue 4 = .ok (.getfield 9, 3) := by decide +kernel
theorem dX1_isValue_7 : decode cX1_isValue 7 = .ok (.if_icmp .ge 21, 3) := by decide +kernel
theorem dX1_isValue_10 : decode cX1_isValue 10 = .ok (.aload_n 0, 1) := by decide +kernel
theorem dX1_isValue_11 : decode cX1_isValue 11 = .ok (.getfield 15, 3) := by decide +kernel
theorem dX1_isValue_14 : decode cX1_isValue 14 = .ok (.iload_n 2, 1) := by decide +kernel
theorem dX1_isValue_15 : decode cX1_isValue 15 = .ok (.iaload, 1) := by decide +kernel
theorem dX1_isValue_16 : decode cX1_isValue 16 = .ok (.iload_n 1, 1) := by decide +kernel
theorem dX1_isValue_17 : decode cX1_isValue 17 = .ok (.if_icmp .ne 5, 3) := by decide +kernel
theorem dX1_isValue_20 : decode cX1_isValue 20 = .ok (.iconst 1, 1) := by decide +kernel
theorem dX1_isValue_21 : decode cX1_isValue 21 = .ok (.ireturn, 1) := by decide +kernel
theorem dX1_isValue_22 : decode cX1_isValue 22 = .ok (.iinc 2 1, 3) := by decide +kernel
theorem dX1_isValue_25 : decode cX1_isValue 25 = .ok (.goto (-23), 3) := by decide +kernel
theorem dX1_isValue_28 : decode cX1_isValue 28 = .ok (.iconst 0, 1) := by decide +kernel
theorem dX1_isValue_29 : decode cX1_isValue 29 = .ok (.ireturn, 1) := by decide +kernel
theorem dX1_rank_0 : decode cX1_rank 0 = .ok (.iload_n 1, 1) := by decide +kernel
theorem dX1_rank_1 : decode cX1_rank 1 = .ok (.istore_n 2, 1) := by decide +kernel
theorem dX1_rank_2 : decode cX1_rank 2 = .ok (.iload_n 2, 1) := by decide +kernel
theorem dX1_rank_3 : decode cX1_rank 3 = .ok (.ifCond .le 45, 3) := by decide +kernel
theorem dX1_rank_6 : decode cX1_rank 6 = .ok (.aload_n 0, 1) := by decide +kernel
theorem dX1_rank_7 : decode cX1_rank 7 = .ok (.getfield 15, 3) := by decide +kernel
theorem dX1_rank_10 : decode cX1_rank 10 = .ok (.aload_n 0, 1) := by decide +kernel
theorem dX1_rank_11 : decode cX1_rank 11 = .ok (.getfield 19, 3) := by decide +kernel
theorem dX1_rank_14 : decode cX1_rank 14 = .ok (.iload_n 2, 1) := by decide +kernel
theorem dX1_rank_15 : decode cX1_rank 15 = .ok (.iconst 1, 1) := by decide +kernel
theorem dX1_rank_16 : decode cX1_rank 16 = .ok (.isub, 1) := by decide +kernel
theorem dX1_rank_17 : decode cX1_rank 17 = .ok (.iaload, 1) := by decide +kernel
theorem dX1_rank_18 : decode cX1_rank 18 = .ok (.iaload, 1) := by decide +kernel
theorem dX1_rank_19 : decode cX1_rank 19 = .ok (.aload_n 0, 1) := by decide +kernel
theorem dX1_rank_20 : decode cX1_rank 20 = .ok (.getfield 15, 3) := by decide +kernel
theorem dX1_rank_23 : decode cX1_rank 23 = .ok (.iload_n 1, 1) := by decide +kernel
theorem dX1_rank_24 : decode cX1_rank 24 = .ok (.iaload, 1) := by decide +kernel
theorem dX1_rank_25 : decode cX1_rank 25 = .ok (.if_icmp .ge 23, 3) := by decide +kernel
theorem dX1_rank_28 : decode cX1_rank 28 = .ok (.aload_n 0, 1) := by decide +kernel
theorem dX1_rank_29 : decode cX1_rank 29 = .ok (.getfield 19, 3) := by decide +kernel
theorem dX1_rank_32 : decode cX1_rank 32 = .ok (.iload_n 2, 1) := by decide +kernel
theorem dX1_rank_33 : decode cX1_rank 33 = .ok (.aload_n 0, 1) := by decide +kernel
theorem dX1_rank_34 : decode cX1_rank 34 = .ok (.getfield 19, 3) := by decide +kernel
theorem dX1_rank_37 : decode cX1_rank 37 = .ok (.iload_n 2, 1) := by decide +kernel
theorem dX1_rank_38 : decode cX1_rank 38 = .ok (.iconst 1, 1) := by decide +kernel
theorem dX1_rank_39 : decode cX1_rank 39 = .ok (.isub, 1) := by decide +kernel
theorem dX1_rank_40 : decode cX1_rank 40 = .ok (.iaload, 1) := by decide +kernel
theorem dX1_rank_41 : decode cX1_rank 41 = .ok (.iastore, 1) := by decide +kernel
theorem dX1_rank_42 : decode cX1_rank 42 = .ok (.iinc 2 (-1), 3) := by decide +kernel
theorem dX1_rank_45 : decode cX1_rank 45 = .ok (.goto (-43), 3) := by decide +kernel
theorem dX1_rank_48 : decode cX1_rank 48 = .ok (.aload_n 0, 1) := by decide +kernel
theorem dX1_rank_49 : decode cX1_rank 49 = .ok (.getfield 19, 3) := by decide +kernel
theorem dX1_rank_52 : decode cX1_rank 52 = .ok (.iload_n 2, 1) := by decide +kernel
theorem dX1_rank_53 : decode cX1_rank 53 = .ok (.iload_n 1, 1) := by decide +kernel
theorem dX1_rank_54 : decode cX1_rank 54 = .ok (.iastore, 1) := by decide +kernel
theorem dX1_rank_55 : decode cX1_rank 55 = .ok (.return_, 1) := by decide +kernel
theorem dX1_improve_0 : decode cX1_improve 0 = .ok (.iload_n 1, 1) := by decide +kernel
theorem dX1_improve_1 : decode cX1_improve 1 = .ok (.istore_n 2, 1) := by decide +kernel
theorem dX1_improve_2 : decode cX1_improve 2 = .ok (.iload_n 2, 1) := by decide +kernel
theorem dX1_improve_3 : decode cX1_improve 3 = .ok (.sipush 2000, 3) := by decide +kernel
theorem dX1_improve_6 : decode cX1_improve 6 = .ok (.if_icmp .gt 54, 3) := by decide +kernel
theorem dX1_improve_9 : decode cX1_improve 9 = .ok (.aload_n 0, 1) := by decide +kernel
theorem dX1_improve_10 : decode cX1_improve 10 = .ok (.getfield 22, 3) := by decide +kernel
theorem dX1_improve_13 : decode cX1_improve 13 = .ok (.iload_n 2, 1) := by decide +kernel
theorem dX1_improve_14 : decode cX1_improve 14 = .ok (.iload_n 1, 1) := by decide +kernel
theorem dX1_improve_15 : decode cX1_improve 15 = .ok (.isub, 1) := by decide +kernel
theorem dX1_improve_16 : decode cX1_improve 16 = .ok (.iaload, 1) := by decide +kernel
theorem dX1_improve_17 : decode cX1_improve 17 = .ok (.istore_n 3, 1) := by decide +kernel
theorem dX1_improve_18 : decode cX1_improve 18 = .ok (.iload_n 3, 1) := by decide +kernel
theorem dX1_improve_19 : decode cX1_improve 19 = .ok (.iconst (-1), 1) := by decide +kernel
theorem dX1_improve_20 : decode cX1_improve 20 = .ok (.if_icmp .eq 34, 3) := by decide +kernel
theorem dX1_improve_23 : decode cX1_improve 23 = .ok (.aload_n 0, 1) := by decide +kernel
theorem dX1_improve_24 : decode cX1_improve 24 = .ok (.getfield 22, 3) := by decide +kernel
theorem dX1_improve_27 : decode cX1_improve 27 = .ok (.iload_n 2, 1) := by decide +kernel
theorem dX1_improve_28 : decode cX1_improve 28 = .ok (.iaload, 1) := by decide +kernel
theorem dX1_improve_29 : decode cX1_improve 29 = .ok (.iconst (-1), 1) := by decide +kernel
theorem dX1_improve_30 : decode cX1_improve 30 = .ok (.if_icmp .eq 15, 3) := by decide +kernel
theorem dX1_improve_33 : decode cX1_improve 33 = .ok (.iload_n 3, 1) := by decide +kernel
theorem dX1_improve_34 : decode cX1_improve 34 = .ok (.iconst 1, 1) := by decide +kernel
theorem dX1_improve_35 : decode cX1_improve 35 = .ok (.iadd, 1) := by decide +kernel
theorem dX1_improve_36 : decode cX1_improve 36 = .ok (.aload_n 0, 1) := by decide +kernel
theorem dX1_improve_37 : decode cX1_improve 37 = .ok (.getfield 22, 3) := by decide +kernel
theorem dX1_improve_40 : decode cX1_improve 40 = .ok (.iload_n 2, 1) := by decide +kernel
theorem dX1_improve_41 : decode cX1_improve 41 = .ok (.iaload, 1) := by decide +kernel
theorem dX1_improve_42 : decode cX1_improve 42 = .ok (.if_icmp .ge 12, 3) := by decide +kernel
theorem dX1_improve_45 : decode cX1_improve 45 = .ok (.aload_n 0, 1) := by decide +kernel
theorem dX1_improve_46 : decode cX1_improve 46 = .ok (.getfield 22, 3) := by decide +kernel
theorem dX1_improve_49 : decode cX1_improve 49 = .ok (.iload_n 2, 1) := by decide +kernel
theorem dX1_improve_50 : decode cX1_improve 50 = .ok (.iload_n 3, 1) := by decide +kernel
theorem dX1_improve_51 : decode cX1_improve 51 = .ok (.iconst 1, 1) := by decide +kernel
theorem dX1_improve_52 : decode cX1_improve 52 = .ok (.iadd, 1) := by decide +kernel
theorem dX1_improve_53 : decode cX1_improve 53 = .ok (.iastore, 1) := by decide +kernel
theorem dX1_improve_54 : decode cX1_improve 54 = .ok (.iinc 2 1, 3) := by decide +kernel
theorem dX1_improve_57 : decode cX1_improve 57 = .ok (.goto (-55), 3) := by decide +kernel
theorem dX1_improve_60 : decode cX1_improve 60 = .ok (.return_, 1) := by decide +kernel
theorem dX1_hasFewest_0 : decode cX1_hasFewest 0 = .ok (.iload_n 1, 1) := by decide +kernel
theorem dX1_hasFewest_1 : decode cX1_hasFewest 1 = .ok (.invokestatic 52, 3) := by decide +kernel
theorem dX1_hasFewest_4 : decode cX1_hasFewest 4 = .ok (.ifCond .eq 17, 3) := by decide +kernel
theorem dX1_hasFewest_7 : decode cX1_hasFewest 7 = .ok (.aload_n 0, 1) := by decide +kernel
theorem dX1_hasFewest_8 : decode cX1_hasFewest 8 = .ok (.getfield 22, 3) := by decide +kernel
theorem dX1_hasFewest_11 : decode cX1_hasFewest 11 = .ok (.iload_n 1, 1) := by decide +kernel
theorem dX1_hasFewest_12 : decode cX1_hasFewest 12 = .ok (.iaload, 1) := by decide +kernel
theorem dX1_hasFewest_13 : decode cX1_hasFewest 13 = .ok (.iconst (-1), 1) := by decide +kernel
theorem dX1_hasFewest_14 : decode cX1_hasFewest 14 = .ok (.if_icmp .eq 7, 3) := by decide +kernel
theorem dX1_hasFewest_17 : decode cX1_hasFewest 17 = .ok (.iconst 1, 1) := by decide +kernel
theorem dX1_hasFewest_18 : decode cX1_hasFewest 18 = .ok (.goto 4, 3) := by decide +kernel
theorem dX1_hasFewest_21 : decode cX1_hasFewest 21 = .ok (.iconst 0, 1) := by decide +kernel
theorem dX1_hasFewest_22 : decode cX1_hasFewest 22 = .ok (.ireturn, 1) := by decide +kernel
theorem dX1_writeFewest_0 : decode cX1_writeFewest 0 = .ok (.iload_n 1, 1) := by decide +kernel
theorem dX1_writeFewest_1 : decode cX1_writeFewest 1 = .ok (.istore_n 3, 1) := by decide +kernel
theorem dX1_writeFewest_2 : decode cX1_writeFewest 2 = .ok (.iconst 0, 1) := by decide +kernel
theorem dX1_writeFewest_3 : decode cX1_writeFewest 3 = .ok (.istore 4, 2) := by decide +kernel
theorem dX1_writeFewest_5 : decode cX1_writeFewest 5 = .ok (.iload 4, 2) := by decide +kernel
theorem dX1_writeFewest_7 : decode cX1_writeFewest 7 = .ok (.aload_n 0, 1) := by decide +kernel
theorem dX1_writeFewest_8 : decode cX1_writeFewest 8 = .ok (.getfield 9, 3) := by decide +kernel
theorem dX1_writeFewest_11 : decode cX1_writeFewest 11 = .ok (.if_icmp .ge 83, 3) := by decide +kernel
theorem dX1_writeFewest_14 : decode cX1_writeFewest 14 = .ok (.aload_n 0, 1) := by decide +kernel
theorem dX1_writeFewest_15 : decode cX1_writeFewest 15 = .ok (.getfield 15, 3) := by decide +kernel
theorem dX1_writeFewest_18 : decode cX1_writeFewest 18 = .ok (.aload_n 0, 1) := by decide +kernel
theorem dX1_writeFewest_19 : decode cX1_writeFewest 19 = .ok (.getfield 19, 3) := by decide +kernel
theorem dX1_writeFewest_22 : decode cX1_writeFewest 22 = .ok (.iload 4, 2) := by decide +kernel
theorem dX1_writeFewest_24 : decode cX1_writeFewest 24 = .ok (.iaload, 1) := by decide +kernel
theorem dX1_writeFewest_25 : decode cX1_writeFewest 25 = .ok (.iaload, 1) := by decide +kernel
theorem dX1_writeFewest_26 : decode cX1_writeFewest 26 = .ok (.istore 5, 2) := by decide +kernel
theorem dX1_writeFewest_28 : decode cX1_writeFewest 28 = .ok (.iload_n 3, 1) := by decide +kernel
theorem dX1_writeFewest_29 : decode cX1_writeFewest 29 = .ok (.iload 5, 2) := by decide +kernel
theorem dX1_writeFewest_31 : decode cX1_writeFewest 31 = .ok (.invokestatic 55, 3) := by decide +kernel
theorem dX1_writeFewest_34 : decode cX1_writeFewest 34 = .ok (.istore 6, 2) := by decide +kernel
theorem dX1_writeFewest_36 : decode cX1_writeFewest 36 = .ok (.iconst 0, 1) := by decide +kernel
theorem dX1_writeFewest_37 : decode cX1_writeFewest 37 = .ok (.istore 7, 2) := by decide +kernel
theorem dX1_writeFewest_39 : decode cX1_writeFewest 39 = .ok (.iload 7, 2) := by decide +kernel
theorem dX1_writeFewest_41 : decode cX1_writeFewest 41 = .ok (.iload 6, 2) := by decide +kernel
theorem dX1_writeFewest_43 : decode cX1_writeFewest 43 = .ok (.if_icmp .ge 34, 3) := by decide +kernel
theorem dX1_writeFewest_46 : decode cX1_writeFewest 46 = .ok (.aload_n 0, 1) := by decide +kernel
theorem dX1_writeFewest_47 : decode cX1_writeFewest 47 = .ok (.getfield 22, 3) := by decide +kernel
theorem dX1_writeFewest_50 : decode cX1_writeFewest 50 = .ok (.iload_n 3, 1) := by decide +kernel
theorem dX1_writeFewest_51 : decode cX1_writeFewest 51 = .ok (.iload 5, 2) := by decide +kernel
theorem dX1_writeFewest_53 : decode cX1_writeFewest 53 = .ok (.isub, 1) := by decide +kernel
theorem dX1_writeFewest_54 : decode cX1_writeFewest 54 = .ok (.iaload, 1) := by decide +kernel
theorem dX1_writeFewest_55 : decode cX1_writeFewest 55 = .ok (.aload_n 0, 1) := by decide +kernel
theorem dX1_writeFewest_56 : decode cX1_writeFewest 56 = .ok (.getfield 22, 3) := by decide +kernel
theorem dX1_writeFewest_59 : decode cX1_writeFewest 59 = .ok (.iload_n 3, 1) := by decide +kernel
theorem dX1_writeFewest_60 : decode cX1_writeFewest 60 = .ok (.iaload, 1) := by decide +kernel
theorem dX1_writeFewest_61 : decode cX1_writeFewest 61 = .ok (.iconst 1, 1) := by decide +kernel
theorem dX1_writeFewest_62 : decode cX1_writeFewest 62 = .ok (.isub, 1) := by decide +kernel
theorem dX1_writeFewest_63 : decode cX1_writeFewest 63 = .ok (.if_icmp .ne 14, 3) := by decide +kernel
theorem dX1_writeFewest_66 : decode cX1_writeFewest 66 = .ok (.iload_n 3, 1) := by decide +kernel
theorem dX1_writeFewest_67 : decode cX1_writeFewest 67 = .ok (.iload 5, 2) := by decide +kernel
theorem dX1_writeFewest_69 : decode cX1_writeFewest 69 = .ok (.isub, 1) := by decide +kernel
theorem dX1_writeFewest_70 : decode cX1_writeFewest 70 = .ok (.istore_n 3, 1) := by decide +kernel
theorem dX1_writeFewest_71 : decode cX1_writeFewest 71 = .ok (.iinc 7 1, 3) := by decide +kernel
theorem dX1_writeFewest_74 : decode cX1_writeFewest 74 = .ok (.goto (-35), 3) := by decide +kernel
theorem dX1_writeFewest_77 : decode cX1_writeFewest 77 = .ok (.aload_n 2, 1) := by decide +kernel
theorem dX1_writeFewest_78 : decode cX1_writeFewest 78 = .ok (.aload_n 0, 1) := by decide +kernel
theorem dX1_writeFewest_79 : decode cX1_writeFewest 79 = .ok (.getfield 19, 3) := by decide +kernel
theorem dX1_writeFewest_82 : decode cX1_writeFewest 82 = .ok (.iload 4, 2) := by decide +kernel
theorem dX1_writeFewest_84 : decode cX1_writeFewest 84 = .ok (.iaload, 1) := by decide +kernel
theorem dX1_writeFewest_85 : decode cX1_writeFewest 85 = .ok (.iload 7, 2) := by decide +kernel
theorem dX1_writeFewest_87 : decode cX1_writeFewest 87 = .ok (.iastore, 1) := by decide +kernel
theorem dX1_writeFewest_88 : decode cX1_writeFewest 88 = .ok (.iinc 4 1, 3) := by decide +kernel
theorem dX1_writeFewest_91 : decode cX1_writeFewest 91 = .ok (.goto (-86), 3) := by decide +kernel
theorem dX1_writeFewest_94 : decode cX1_writeFewest 94 = .ok (.return_, 1) := by decide +kernel
theorem dX1_countGreedily_0 : decode cX1_countGreedily 0 = .ok (.iload_n 1, 1) := by decide +kernel
theorem dX1_countGreedily_1 : decode cX1_countGreedily 1 = .ok (.istore_n 2, 1) := by decide +kernel
theorem dX1_countGreedily_2 : decode cX1_countGreedily 2 = .ok (.iconst 0, 1) := by decide +kernel
theorem dX1_countGreedily_3 : decode cX1_countGreedily 3 = .ok (.istore_n 3, 1) := by decide +kernel
theorem dX1_countGreedily_4 : decode cX1_countGreedily 4 = .ok (.iconst 0, 1) := by decide +kernel
theorem dX1_countGreedily_5 : decode cX1_countGreedily 5 = .ok (.istore 4, 2) := by decide +kernel
theorem dX1_countGreedily_7 : decode cX1_countGreedily 7 = .ok (.iload 4, 2) := by decide +kernel
theorem dX1_countGreedily_9 : decode cX1_countGreedily 9 = .ok (.aload_n 0, 1) := by decide +kernel
theorem dX1_countGreedily_10 : decode cX1_countGreedily 10 = .ok (.getfield 9, 3) := by decide +kernel
theorem dX1_countGreedily_13 : decode cX1_countGreedily 13 = .ok (.if_icmp .ge 48, 3) := by decide +kernel
theorem dX1_countGreedily_16 : decode cX1_countGreedily 16 = .ok (.iload_n 2, 1) := by decide +kernel
theorem dX1_countGreedily_17 : decode cX1_countGreedily 17 = .ok (.ifCond .le 44, 3) := by decide +kernel
theorem dX1_countGreedily_20 : decode cX1_countGreedily 20 = .ok (.aload_n 0, 1) := by decide +kernel
theorem dX1_countGreedily_21 : decode cX1_countGreedily 21 = .ok (.getfield 15, 3) := by decide +kernel
theorem dX1_countGreedily_24 : decode cX1_countGreedily 24 = .ok (.aload_n 0, 1) := by decide +kernel
theorem dX1_countGreedily_25 : decode cX1_countGreedily 25 = .ok (.getfield 19, 3) := by decide +kernel
theorem dX1_countGreedily_28 : decode cX1_countGreedily 28 = .ok (.iload 4, 2) := by decide +kernel
theorem dX1_countGreedily_30 : decode cX1_countGreedily 30 = .ok (.iaload, 1) := by decide +kernel
theorem dX1_countGreedily_31 : decode cX1_countGreedily 31 = .ok (.iaload, 1) := by decide +kernel
theorem dX1_countGreedily_32 : decode cX1_countGreedily 32 = .ok (.istore 5, 2) := by decide +kernel
theorem dX1_countGreedily_34 : decode cX1_countGreedily 34 = .ok (.iload_n 2, 1) := by decide +kernel
theorem dX1_countGreedily_35 : decode cX1_countGreedily 35 = .ok (.iload 5, 2) := by decide +kernel
theorem dX1_countGreedily_37 : decode cX1_countGreedily 37 = .ok (.invokestatic 55, 3) := by decide +kernel
theorem dX1_countGreedily_40 : decode cX1_countGreedily 40 = .ok (.istore 6, 2) := by decide +kernel
theorem dX1_countGreedily_42 : decode cX1_countGreedily 42 = .ok (.iload_n 2, 1) := by decide +kernel
theorem dX1_countGreedily_43 : decode cX1_countGreedily 43 = .ok (.iload 6, 2) := by decide +kernel
theorem dX1_countGreedily_45 : decode cX1_countGreedily 45 = .ok (.iload 5, 2) := by decide +kernel
theorem dX1_countGreedily_47 : decode cX1_countGreedily 47 = .ok (.imul, 1) := by decide +kernel
theorem dX1_countGreedily_48 : decode cX1_countGreedily 48 = .ok (.isub, 1) := by decide +kernel
theorem dX1_countGreedily_49 : decode cX1_countGreedily 49 = .ok (.istore_n 2, 1) := by decide +kernel
theorem dX1_countGreedily_50 : decode cX1_countGreedily 50 = .ok (.iload_n 3, 1) := by decide +kernel
theorem dX1_countGreedily_51 : decode cX1_countGreedily 51 = .ok (.iload 6, 2) := by decide +kernel
theorem dX1_countGreedily_53 : decode cX1_countGreedily 53 = .ok (.iadd, 1) := by decide +kernel
theorem dX1_countGreedily_54 : decode cX1_countGreedily 54 = .ok (.istore_n 3, 1) := by decide +kernel
theorem dX1_countGreedily_55 : decode cX1_countGreedily 55 = .ok (.iinc 4 1, 3) := by decide +kernel
theorem dX1_countGreedily_58 : decode cX1_countGreedily 58 = .ok (.goto (-51), 3) := by decide +kernel
theorem dX1_countGreedily_61 : decode cX1_countGreedily 61 = .ok (.iload_n 2, 1) := by decide +kernel
theorem dX1_countGreedily_62 : decode cX1_countGreedily 62 = .ok (.ifCond .ne 7, 3) := by decide +kernel
theorem dX1_countGreedily_65 : decode cX1_countGreedily 65 = .ok (.iload_n 3, 1) := by decide +kernel
theorem dX1_countGreedily_66 : decode cX1_countGreedily 66 = .ok (.goto 4, 3) := by decide +kernel
theorem dX1_countGreedily_69 : decode cX1_countGreedily 69 = .ok (.iconst (-1), 1) := by decide +kernel
theorem dX1_countGreedily_70 : decode cX1_countGreedily 70 = .ok (.ireturn, 1) := by decide +kernel
theorem dX1_leastOdd_0 : decode cX1_leastOdd 0 = .ok (.iconst 0, 1) := by decide +kernel
theorem dX1_leastOdd_1 : decode cX1_leastOdd 1 = .ok (.istore_n 1, 1) := by decide +kernel
theorem dX1_leastOdd_2 : decode cX1_leastOdd 2 = .ok (.iload_n 1, 1) := by decide +kernel
theorem dX1_leastOdd_3 : decode cX1_leastOdd 3 = .ok (.sipush 2000, 3) := by decide +kernel
theorem dX1_leastOdd_6 : decode cX1_leastOdd 6 = .ok (.if_icmp .gt 35, 3) := by decide +kernel
theorem dX1_leastOdd_9 : decode cX1_leastOdd 9 = .ok (.aload_n 0, 1) := by decide +kernel
theorem dX1_leastOdd_10 : decode cX1_leastOdd 10 = .ok (.getfield 22, 3) := by decide +kernel
theorem dX1_leastOdd_13 : decode cX1_leastOdd 13 = .ok (.iload_n 1, 1) := by decide +kernel
theorem dX1_leastOdd_14 : decode cX1_leastOdd 14 = .ok (.iaload, 1) := by decide +kernel
theorem dX1_leastOdd_15 : decode cX1_leastOdd 15 = .ok (.iconst (-1), 1) := by decide +kernel
theorem dX1_leastOdd_16 : decode cX1_leastOdd 16 = .ok (.if_icmp .eq 19, 3) := by decide +kernel
theorem dX1_leastOdd_19 : decode cX1_leastOdd 19 = .ok (.aload_n 0, 1) := by decide +kernel
theorem dX1_leastOdd_20 : decode cX1_leastOdd 20 = .ok (.iload_n 1, 1) := by decide +kernel
theorem dX1_leastOdd_21 : decode cX1_leastOdd 21 = .ok (.invokevirtual 59, 3) := by decide +kernel
theorem dX1_leastOdd_24 : decode cX1_leastOdd 24 = .ok (.aload_n 0, 1) := by decide +kernel
theorem dX1_leastOdd_25 : decode cX1_leastOdd 25 = .ok (.getfield 22, 3) := by decide +kernel
theorem dX1_leastOdd_28 : decode cX1_leastOdd 28 = .ok (.iload_n 1, 1) := by decide +kernel
theorem dX1_leastOdd_29 : decode cX1_leastOdd 29 = .ok (.iaload, 1) := by decide +kernel
theorem dX1_leastOdd_30 : decode cX1_leastOdd 30 = .ok (.if_icmp .eq 5, 3) := by decide +kernel
theorem dX1_leastOdd_33 : decode cX1_leastOdd 33 = .ok (.iload_n 1, 1) := by decide +kernel
theorem dX1_leastOdd_34 : decode cX1_leastOdd 34 = .ok (.ireturn, 1) := by decide +kernel
theorem dX1_leastOdd_35 : decode cX1_leastOdd 35 = .ok (.iinc 1 1, 3) := by decide +kernel
theorem dX1_leastOdd_38 : decode cX1_leastOdd 38 = .ok (.goto (-36), 3) := by decide +kernel
theorem dX1_leastOdd_41 : decode cX1_leastOdd 41 = .ok (.iconst (-1), 1) := by decide +kernel
theorem dX1_leastOdd_42 : decode cX1_leastOdd 42 = .ok (.ireturn, 1) := by decide +kernel
theorem dX1_detail_0 : decode cX1_detail 0 = .ok (.iload_n 1, 1) := by decide +kernel
theorem dX1_detail_1 : decode cX1_detail 1 = .ok (.ifCond .ne 8, 3) := by decide +kernel
theorem dX1_detail_4 : decode cX1_detail 4 = .ok (.aload_n 0, 1) := by decide +kernel
theorem dX1_detail_5 : decode cX1_detail 5 = .ok (.getfield 9, 3) := by decide +kernel
theorem dX1_detail_8 : decode cX1_detail 8 = .ok (.ireturn, 1) := by decide +kernel
theorem dX1_detail_9 : decode cX1_detail 9 = .ok (.aload_n 0, 1) := by decide +kernel
theorem dX1_detail_10 : decode cX1_detail 10 = .ok (.iload_n 1, 1) := by decide +kernel
theorem dX1_detail_11 : decode cX1_detail 11 = .ok (.bipush 10, 2) := by decide +kernel
theorem dX1_detail_13 : decode cX1_detail 13 = .ok (.isub, 1) := by decide +kernel
theorem dX1_detail_14 : decode cX1_detail 14 = .ok (.invokevirtual 63, 3) := by decide +kernel
theorem dX1_detail_17 : decode cX1_detail 17 = .ok (.ifCond .eq 15, 3) := by decide +kernel
theorem dX1_detail_20 : decode cX1_detail 20 = .ok (.aload_n 0, 1) := by decide +kernel
theorem dX1_detail_21 : decode cX1_detail 21 = .ok (.getfield 15, 3) := by decide +kernel
theorem dX1_detail_24 : decode cX1_detail 24 = .ok (.iload_n 1, 1) := by decide +kernel
theorem dX1_detail_25 : decode cX1_detail 25 = .ok (.bipush 10, 2) := by decide +kernel
theorem dX1_detail_27 : decode cX1_detail 27 = .ok (.isub, 1) := by decide +kernel
theorem dX1_detail_28 : decode cX1_detail 28 = .ok (.iaload, 1) := by decide +kernel
theorem dX1_detail_29 : decode cX1_detail 29 = .ok (.goto 4, 3) := by decide +kernel
theorem dX1_detail_32 : decode cX1_detail 32 = .ok (.iconst (-1), 1) := by decide +kernel
theorem dX1_detail_33 : decode cX1_detail 33 = .ok (.ireturn, 1) := by decide +kernel
theorem dX2_init_0 : decode cX2_init 0 = .ok (.aload_n 0, 1) := by decide +kernel
theorem dX2_init_1 : decode cX2_init 1 = .ok (.invokespecial 3, 3) := by decide +kernel
theorem dX2_init_4 : decode cX2_init 4 = .ok (.aload_n 0, 1) := by decide +kernel
theorem dX2_init_5 : decode cX2_init 5 = .ok (.iconst 0, 1) := by decide +kernel
theorem dX2_init_6 : decode cX2_init 6 = .ok (.putfield 9, 3) := by decide +kernel
theorem dX2_init_9 : decode cX2_init 9 = .ok (.aload_n 0, 1) := by decide +kernel
theorem dX2_init_10 : decode cX2_init 10 = .ok (.bipush 20, 2) := by decide +kernel
theorem dX2_init_12 : decode cX2_init 12 = .ok (.newarray .int, 2) := by decide +kernel
theorem dX2_init_14 : decode cX2_init 14 = .ok (.putfield 15, 3) := by decide +kernel
theorem dX2_init_17 : decode cX2_init 17 = .ok (.aload_n 0, 1) := by decide +kernel
theorem dX2_init_18 : decode cX2_init 18 = .ok (.bipush 20, 2) := by decide +kernel
theorem dX2_init_20 : decode cX2_init 20 = .ok (.newarray .int, 2) := by decide +kernel
theorem dX2_init_22 : decode cX2_init 22 = .ok (.putfield 19, 3) := by decide +kernel
theorem dX2_init_25 : decode cX2_init 25 = .ok (.aload_n 0, 1) := by decide +kernel
theorem dX2_init_26 : decode cX2_init 26 = .ok (.bipush 20, 2) := by decide +kernel
theorem dX2_init_28 : decode cX2_init 28 = .ok (.newarray .int, 2) := by decide +kernel
theorem dX2_init_30 : decode cX2_init 30 = .ok (.putfield 22, 3) := by decide +kernel
theorem dX2_init_33 : decode cX2_init 33 = .ok (.aload_n 0, 1) := by decide +kernel
theorem dX2_init_34 : decode cX2_init 34 = .ok (.bipush 20, 2) := by decide +kernel
theorem dX2_init_36 : decode cX2_init 36 = .ok (.newarray .int, 2) := by decide +kernel
theorem dX2_init_38 : decode cX2_init 38 = .ok (.putfield 25, 3) := by decide +kernel
theorem dX2_init_41 : decode cX2_init 41 = .ok (.return_, 1) := by decide +kernel
theorem dX2_copyFrom_0 : decode cX2_copyFrom 0 = .ok (.aload_n 0, 1) := by decide +kernel
theorem dX2_copyFrom_1 : decode cX2_copyFrom 1 = .ok (.aload_n 1, 1) := by decide +kernel
theorem dX2_copyFrom_2 : decode cX2_copyFrom 2 = .ok (.getfield 9, 3) := by decide +kernel
theorem dX2_copyFrom_5 : decode cX2_copyFrom 5 = .ok (.putfield 9, 3) := by decide +kernel
theorem dX2_copyFrom_8 : decode cX2_copyFrom 8 = .ok (.aload_n 1, 1) := by decide +kernel
theorem dX2_copyFrom_9 : decode cX2_copyFrom 9 = .ok (.getfield 15, 3) := by decide +kernel
theorem dX2_copyFrom_12 : decode cX2_copyFrom 12 = .ok (.iconst 0, 1) := by decide +kernel
theorem dX2_copyFrom_13 : decode cX2_copyFrom 13 = .ok (.aload_n 0, 1) := by decide +kernel
theorem dX2_copyFrom_14 : decode cX2_copyFrom 14 = .ok (.getfield 15, 3) := by decide +kernel
theorem dX2_copyFrom_17 : decode cX2_copyFrom 17 = .ok (.iconst 0, 1) := by decide +kernel
theorem dX2_copyFrom_18 : decode cX2_copyFrom 18 = .ok (.bipush 20, 2) := by decide +kernel
theorem dX2_copyFrom_20 : decode cX2_copyFrom 20 = .ok (.invokestatic 28, 3) := by decide +kernel
theorem dX2_copyFrom_23 : decode cX2_copyFrom 23 = .ok (.aload_n 1, 1) := by decide +kernel
theorem dX2_copyFrom_24 : decode cX2_copyFrom 24 = .ok (.getfield 19, 3) := by decide +kernel
theorem dX2_copyFrom_27 : decode cX2_copyFrom 27 = .ok (.iconst 0, 1) := by decide +kernel
theorem dX2_copyFrom_28 : decode cX2_copyFrom 28 = .ok (.aload_n 0, 1) := by decide +kernel
theorem dX2_copyFrom_29 : decode cX2_copyFrom 29 = .ok (.getfield 19, 3) := by decide +kernel
theorem dX2_copyFrom_32 : decode cX2_copyFrom 32 = .ok (.iconst 0, 1) := by decide +kernel
theorem dX2_copyFrom_33 : decode cX2_copyFrom 33 = .ok (.bipush 20, 2) := by decide +kernel
theorem dX2_copyFrom_35 : decode cX2_copyFrom 35 = .ok (.invokestatic 28, 3) := by decide +kernel
theorem dX2_copyFrom_38 : decode cX2_copyFrom 38 = .ok (.aload_n 1, 1) := by decide +kernel
theorem dX2_copyFrom_39 : decode cX2_copyFrom 39 = .ok (.getfield 22, 3) := by decide +kernel
theorem dX2_copyFrom_42 : decode cX2_copyFrom 42 = .ok (.iconst 0, 1) := by decide +kernel
theorem dX2_copyFrom_43 : decode cX2_copyFrom 43 = .ok (.aload_n 0, 1) := by decide +kernel
theorem dX2_copyFrom_44 : decode cX2_copyFrom 44 = .ok (.getfield 22, 3) := by decide +kernel
theorem dX2_copyFrom_47 : decode cX2_copyFrom 47 = .ok (.iconst 0, 1) := by decide +kernel
theorem dX2_copyFrom_48 : decode cX2_copyFrom 48 = .ok (.bipush 20, 2) := by decide +kernel
theorem dX2_copyFrom_50 : decode cX2_copyFrom 50 = .ok (.invokestatic 28, 3) := by decide +kernel
theorem dX2_copyFrom_53 : decode cX2_copyFrom 53 = .ok (.aload_n 1, 1) := by decide +kernel
theorem dX2_copyFrom_54 : decode cX2_copyFrom 54 = .ok (.getfield 25, 3) := by decide +kernel
theorem dX2_copyFrom_57 : decode cX2_copyFrom 57 = .ok (.iconst 0, 1) := by decide +kernel
theorem dX2_copyFrom_58 : decode cX2_copyFrom 58 = .ok (.aload_n 0, 1) := by decide +kernel
theorem dX2_copyFrom_59 : decode cX2_copyFrom 59 = .ok (.getfield 25, 3) := by decide +kernel
theorem dX2_copyFrom_62 : decode cX2_copyFrom 62 = .ok (.iconst 0, 1) := by decide +kernel
theorem dX2_copyFrom_63 : decode cX2_copyFrom 63 = .ok (.bipush 20, 2) := by decide +kernel
theorem dX2_copyFrom_65 : decode cX2_copyFrom 65 = .ok (.invokestatic 28, 3) := by decide +kernel
theorem dX2_copyFrom_68 : decode cX2_copyFrom 68 = .ok (.return_, 1) := by decide +kernel
theorem dX2_add_0 : decode cX2_add 0 = .ok (.aload_n 0, 1) := by decide +kernel
theorem dX2_add_1 : decode cX2_add 1 = .ok (.getfield 9, 3) := by decide +kernel
theorem dX2_add_4 : decode cX2_add 4 = .ok (.bipush 20, 2) := by decide +kernel
theorem dX2_add_6 : decode cX2_add 6 = .ok (.if_icmp .lt 5, 3) := by decide +kernel
theorem dX2_add_9 : decode cX2_add 9 = .ok (.iconst (-1), 1) := by decide +kernel
theorem dX2_add_10 : decode cX2_add 10 = .ok (.ireturn, 1) := by decide +kernel
theorem dX2_add_11 : decode cX2_add 11 = .ok (.aload_n 0, 1) := by decide +kernel
theorem dX2_add_12 : decode cX2_add 12 = .ok (.getfield 15, 3) := by decide +kernel
theorem dX2_add_15 : decode cX2_add 15 = .ok (.aload_n 0, 1) := by decide +kernel
theorem dX2_add_16 : decode cX2_add 16 = .ok (.getfield 9, 3) := by decide +kernel
theorem dX2_add_19 : decode cX2_add 19 = .ok (.iload_n 1, 1) := by decide +kernel
theorem dX2_add_20 : decode cX2_add 20 = .ok (.iastore, 1) := by decide +kernel
theorem dX2_add_21 : decode cX2_add 21 = .ok (.aload_n 0, 1) := by decide +kernel
theorem dX2_add_22 : decode cX2_add 22 = .ok (.getfield 19, 3) := by decide +kernel
theorem dX2_add_25 : decode cX2_add 25 = .ok (.aload_n 0, 1) := by decide +kernel
theorem dX2_add_26 : decode cX2_add 26 = .ok (.getfield 9, 3) := by decide +kernel
theorem dX2_add_29 : decode cX2_add 29 = .ok (.iload_n 2, 1) := by decide +kernel
theorem dX2_add_30 : decode cX2_add 30 = .ok (.iastore, 1) := by decide +kernel
theorem dX2_add_31 : decode cX2_add 31 = .ok (.aload_n 0, 1) := by decide +kernel
theorem dX2_add_32 : decode cX2_add 32 = .ok (.getfield 22, 3) := by decide +kernel
theorem dX2_add_35 : decode cX2_add 35 = .ok (.aload_n 0, 1) := by decide +kernel
theorem dX2_add_36 : decode cX2_add 36 = .ok (.getfield 9, 3) := by decide +kernel
theorem dX2_add_39 : decode cX2_add 39 = .ok (.iload_n 3, 1) := by decide +kernel
theorem dX2_add_40 : decode cX2_add 40 = .ok (.iastore, 1) := by decide +kernel
theorem dX2_add_41 : decode cX2_add 41 = .ok (.aload_n 0, 1) := by decide +kernel
theorem dX2_add_42 : decode cX2_add 42 = .ok (.getfield 25, 3) := by decide +kernel
theorem dX2_add_45 : decode cX2_add 45 = .ok (.aload_n 0, 1) := by decide +kernel
theorem dX2_add_46 : decode cX2_add 46 = .ok (.getfield 9, 3) := by decide +kernel
theorem dX2_add_49 : decode cX2_add 49 = .ok (.iload 4, 2) := by decide +kernel
theorem dX2_add_51 : decode cX2_add 51 = .ok (.iastore, 1) := by decide +kernel
theorem dX2_add_52 : decode cX2_add 52 = .ok (.aload_n 0, 1) := by decide +kernel
theorem dX2_add_53 : decode cX2_add 53 = .ok (.dup, 1) := by decide +kernel
theorem dX2_add_54 : decode cX2_add 54 = .ok (.getfield 9, 3) := by decide +kernel
theorem dX2_add_57 : decode cX2_add 57 = .ok (.iconst 1, 1) := by decide +kernel
theorem dX2_add_58 : decode cX2_add 58 = .ok (.iadd, 1) := by decide +kernel
theorem dX2_add_59 : decode cX2_add 59 = .ok (.putfield 9, 3) := by decide +kernel
theorem dX2_add_62 : decode cX2_add 62 = .ok (.aload_n 0, 1) := by decide +kernel
theorem dX2_add_63 : decode cX2_add 63 = .ok (.getfield 9, 3) := by decide +kernel
theorem dX2_add_66 : decode cX2_add 66 = .ok (.ireturn, 1) := by decide +kernel
theorem dX3_init_0 : decode cX3_init 0 = .ok (.aload_n 0, 1) := by decide +kernel
theorem dX3_init_1 : decode cX3_init 1 = .ok (.invokespecial 3, 3) := by decide +kernel
theorem dX3_init_4 : decode cX3_init 4 = .ok (.aload_n 0, 1) := by decide +kernel
theorem dX3_init_5 : decode cX3_init 5 = .ok (.iconst 0, 1) := by decide +kernel
theorem dX3_init_6 : decode cX3_init 6 = .ok (.putfield 9, 3) := by decide +kernel
theorem dX3_init_9 : decode cX3_init 9 = .ok (.aload_n 0, 1) := by decide +kernel
theorem dX3_init_10 : decode cX3_init 10 = .ok (.bipush 14, 2) := by decide +kernel
theorem dX3_init_12 : decode cX3_init 12 = .ok (.newarray .int, 2) := by decide +kernel
theorem dX3_init_14 : decode cX3_init 14 = .ok (.putfield 15, 3) := by decide +kernel
theorem dX3_init_17 : decode cX3_init 17 = .ok (.aload_n 0, 1) := by decide +kernel
theorem dX3_init_18 : decode cX3_init 18 = .ok (.bipush 14, 2) := by decide +kernel
theorem dX3_init_20 : decode cX3_init 20 = .ok (.newarray .int, 2) := by decide +kernel
theorem dX3_init_22 : decode cX3_init 22 = .ok (.putfield 19, 3) := by decide +kernel
theorem dX3_init_25 : decode cX3_init 25 = .ok (.return_, 1) := by decide +kernel
theorem dX3_copyFrom_0 : decode cX3_copyFrom 0 = .ok (.aload_n 0, 1) := by decide +kernel
theorem dX3_copyFrom_1 : decode cX3_copyFrom 1 = .ok (.aload_n 1, 1) := by decide +kernel
theorem dX3_copyFrom_2 : decode cX3_copyFrom 2 = .ok (.getfield 9, 3) := by decide +kernel
theorem dX3_copyFrom_5 : decode cX3_copyFrom 5 = .ok (.putfield 9, 3) := by decide +kernel
theorem dX3_copyFrom_8 : decode cX3_copyFrom 8 = .ok (.aload_n 1, 1) := by decide +kernel
theorem dX3_copyFrom_9 : decode cX3_copyFrom 9 = .ok (.getfield 15, 3) := by decide +kernel
theorem dX3_copyFrom_12 : decode cX3_copyFrom 12 = .ok (.iconst 0, 1) := by decide +kernel
theorem dX3_copyFrom_13 : decode cX3_copyFrom 13 = .ok (.aload_n 0, 1) := by decide +kernel
theorem dX3_copyFrom_14 : decode cX3_copyFrom 14 = .ok (.getfield 15, 3) := by decide +kernel
theorem dX3_copyFrom_17 : decode cX3_copyFrom 17 = .ok (.iconst 0, 1) := by decide +kernel
theorem dX3_copyFrom_18 : decode cX3_copyFrom 18 = .ok (.bipush 14, 2) := by decide +kernel
theorem dX3_copyFrom_20 : decode cX3_copyFrom 20 = .ok (.invokestatic 22, 3) := by decide +kernel
theorem dX3_copyFrom_23 : decode cX3_copyFrom 23 = .ok (.aload_n 1, 1) := by decide +kernel
theorem dX3_copyFrom_24 : decode cX3_copyFrom 24 = .ok (.getfield 19, 3) := by decide +kernel
theorem dX3_copyFrom_27 : decode cX3_copyFrom 27 = .ok (.iconst 0, 1) := by decide +kernel
theorem dX3_copyFrom_28 : decode cX3_copyFrom 28 = .ok (.aload_n 0, 1) := by decide +kernel
theorem dX3_copyFrom_29 : decode cX3_copyFrom 29 = .ok (.getfield 19, 3) := by decide +kernel
theorem dX3_copyFrom_32 : decode cX3_copyFrom 32 = .ok (.iconst 0, 1) := by decide +kernel
theorem dX3_copyFrom_33 : decode cX3_copyFrom 33 = .ok (.bipush 14, 2) := by decide +kernel
theorem dX3_copyFrom_35 : decode cX3_copyFrom 35 = .ok (.invokestatic 22, 3) := by decide +kernel
theorem dX3_copyFrom_38 : decode cX3_copyFrom 38 = .ok (.return_, 1) := by decide +kernel
theorem dX3_isGood_0 : decode cX3_isGood 0 = .ok (.iconst 0, 1) := by decide +kernel
theorem dX3_isGood_1 : decode cX3_isGood 1 = .ok (.iload_n 1, 1) := by decide +kernel
theorem dX3_isGood_2 : decode cX3_isGood 2 = .ok (.aload_n 0, 1) := by decide +kernel
theorem dX3_isGood_3 : decode cX3_isGood 3 = .ok (.getfield 9, 3) := by decide +kernel
theorem dX3_isGood_6 : decode cX3_isGood 6 = .ok (.iconst 1, 1) := by decide +kernel
theorem dX3_isGood_7 : decode cX3_isGood 7 = .ok (.isub, 1) := by decide +kernel
theorem dX3_isGood_8 : decode cX3_isGood 8 = .ok (.invokestatic 28, 3) := by decide +kernel
theorem dX3_isGood_11 : decode cX3_isGood 11 = .ok (.ireturn, 1) := by decide +kernel
theorem dX3_add_0 : decode cX3_add 0 = .ok (.aload_n 0, 1) := by decide +kernel
theorem dX3_add_1 : decode cX3_add 1 = .ok (.getfield 9, 3) := by decide +kernel
theorem dX3_add_4 : decode cX3_add 4 = .ok (.bipush 14, 2) := by decide +kernel
theorem dX3_add_6 : decode cX3_add 6 = .ok (.if_icmp .ge 24, 3) := by decide +kernel
theorem dX3_add_9 : decode cX3_add 9 = .ok (.iconst 1, 1) := by decide +kernel
theorem dX3_add_10 : decode cX3_add 10 = .ok (.iload_n 1, 1) := by decide +kernel
theorem dX3_add_11 : decode cX3_add 11 = .ok (.sipush 10000, 3) := by decide +kernel
theorem dX3_add_14 : decode cX3_add 14 = .ok (.invokestatic 28, 3) := by decide +kernel
theorem dX3_add_17 : decode cX3_add 17 = .ok (.ifCond .eq 13, 3) := by decide +kernel
theorem dX3_add_20 : decode cX3_add 20 = .ok (.iconst 0, 1) := by decide +kernel
theorem dX3_add_21 : decode cX3_add 21 = .ok (.iload_n 2, 1) := by decide +kernel
theorem dX3_add_22 : decode cX3_add 22 = .ok (.bipush 100, 2) := by decide +kernel
theorem dX3_add_24 : decode cX3_add 24 = .ok (.invokestatic 28, 3) := by decide +kernel
theorem dX3_add_27 : decode cX3_add 27 = .ok (.ifCond .ne 5, 3) := by decide +kernel
theorem dX3_add_30 : decode cX3_add 30 = .ok (.iconst (-1), 1) := by decide +kernel
theorem dX3_add_31 : decode cX3_add 31 = .ok (.ireturn, 1) := by decide +kernel
theorem dX3_add_32 : decode cX3_add 32 = .ok (.aload_n 0, 1) := by decide +kernel
theorem dX3_add_33 : decode cX3_add 33 = .ok (.getfield 15, 3) := by decide +kernel
theorem dX3_add_36 : decode cX3_add 36 = .ok (.aload_n 0, 1) := by decide +kernel
theorem dX3_add_37 : decode cX3_add 37 = .ok (.getfield 9, 3) := by decide +kernel
theorem dX3_add_40 : decode cX3_add 40 = .ok (.iload_n 1, 1) := by decide +kernel
theorem dX3_add_41 : decode cX3_add 41 = .ok (.iastore, 1) := by decide +kernel
theorem dX3_add_42 : decode cX3_add 42 = .ok (.aload_n 0, 1) := by decide +kernel
theorem dX3_add_43 : decode cX3_add 43 = .ok (.getfield 19, 3) := by decide +kernel
theorem dX3_add_46 : decode cX3_add 46 = .ok (.aload_n 0, 1) := by decide +kernel
theorem dX3_add_47 : decode cX3_add 47 = .ok (.getfield 9, 3) := by decide +kernel
theorem dX3_add_50 : decode cX3_add 50 = .ok (.iload_n 2, 1) := by decide +kernel
theorem dX3_add_51 : decode cX3_add 51 = .ok (.iastore, 1) := by decide +kernel
theorem dX3_add_52 : decode cX3_add 52 = .ok (.aload_n 0, 1) := by decide +kernel
theorem dX3_add_53 : decode cX3_add 53 = .ok (.dup, 1) := by decide +kernel
theorem dX3_add_54 : decode cX3_add 54 = .ok (.getfield 9, 3) := by decide +kernel
theorem dX3_add_57 : decode cX3_add 57 = .ok (.iconst 1, 1) := by decide +kernel
theorem dX3_add_58 : decode cX3_add 58 = .ok (.iadd, 1) := by decide +kernel
theorem dX3_add_59 : decode cX3_add 59 = .ok (.putfield 9, 3) := by decide +kernel
theorem dX3_add_62 : decode cX3_add 62 = .ok (.aload_n 0, 1) := by decide +kernel
theorem dX3_add_63 : decode cX3_add 63 = .ok (.getfield 9, 3) := by decide +kernel
theorem dX3_add_66 : decode cX3_add 66 = .ok (.iconst 1, 1) := by decide +kernel
theorem dX3_add_67 : decode cX3_add 67 = .ok (.isub, 1) := by decide +kernel
theorem dX3_add_68 : decode cX3_add 68 = .ok (.ireturn, 1) := by decide +kernel
theorem dX4_init_0 : decode cX4_init 0 = .ok (.aload_n 0, 1) := by decide +kernel
theorem dX4_init_1 : decode cX4_init 1 = .ok (.invokespecial 3, 3) := by decide +kernel
theorem dX4_init_4 : decode cX4_init 4 = .ok (.aload_n 0, 1) := by decide +kernel
theorem dX4_init_5 : decode cX4_init 5 = .ok (.new 9, 3) := by decide +kernel
theorem dX4_init_8 : decode cX4_init 8 = .ok (.dup, 1) := by decide +kernel
theorem dX4_init_9 : decode cX4_init 9 = .ok (.invokespecial 11, 3) := by decide +kernel
theorem dX4_init_12 : decode cX4_init 12 = .ok (.putfield 12, 3) := by decide +kernel
theorem dX4_init_15 : decode cX4_init 15 = .ok (.aload_n 0, 1) := by decide +kernel
theorem dX4_init_16 : decode cX4_init 16 = .ok (.new 9, 3) := by decide +kernel
theorem dX4_init_19 : decode cX4_init 19 = .ok (.dup, 1) := by decide +kernel
theorem dX4_init_20 : decode cX4_init 20 = .ok (.invokespecial 11, 3) := by decide +kernel
theorem dX4_init_23 : decode cX4_init 23 = .ok (.putfield 18, 3) := by decide +kernel
theorem dX4_init_26 : decode cX4_init 26 = .ok (.aload_n 0, 1) := by decide +kernel
theorem dX4_init_27 : decode cX4_init 27 = .ok (.new 21, 3) := by decide +kernel
theorem dX4_init_30 : decode cX4_init 30 = .ok (.dup, 1) := by decide +kernel
theorem dX4_init_31 : decode cX4_init 31 = .ok (.invokespecial 23, 3) := by decide +kernel
theorem dX4_init_34 : decode cX4_init 34 = .ok (.putfield 24, 3) := by decide +kernel
theorem dX4_init_37 : decode cX4_init 37 = .ok (.aload_n 0, 1) := by decide +kernel
theorem dX4_init_38 : decode cX4_init 38 = .ok (.iconst 4, 1) := by decide +kernel
theorem dX4_init_39 : decode cX4_init 39 = .ok (.anewarray 28, 3) := by decide +kernel
theorem dX4_init_42 : decode cX4_init 42 = .ok (.putfield 30, 3) := by decide +kernel
theorem dX4_init_45 : decode cX4_init 45 = .ok (.aload_n 0, 1) := by decide +kernel
theorem dX4_init_46 : decode cX4_init 46 = .ok (.bipush 8, 2) := by decide +kernel
theorem dX4_init_48 : decode cX4_init 48 = .ok (.newarray .int, 2) := by decide +kernel
theorem dX4_init_50 : decode cX4_init 50 = .ok (.putfield 34, 3) := by decide +kernel
theorem dX4_init_53 : decode cX4_init 53 = .ok (.aload_n 0, 1) := by decide +kernel
theorem dX4_init_54 : decode cX4_init 54 = .ok (.iconst 0, 1) := by decide +kernel
theorem dX4_init_55 : decode cX4_init 55 = .ok (.putfield 38, 3) := by decide +kernel
theorem dX4_init_58 : decode cX4_init 58 = .ok (.aload_n 0, 1) := by decide +kernel
theorem dX4_init_59 : decode cX4_init 59 = .ok (.iconst 1, 1) := by decide +kernel
theorem dX4_init_60 : decode cX4_init 60 = .ok (.putfield 42, 3) := by decide +kernel
theorem dX4_init_63 : decode cX4_init 63 = .ok (.aload_n 0, 1) := by decide +kernel
theorem dX4_init_64 : decode cX4_init 64 = .ok (.iconst 1, 1) := by decide +kernel
theorem dX4_init_65 : decode cX4_init 65 = .ok (.putfield 45, 3) := by decide +kernel
theorem dX4_init_68 : decode cX4_init 68 = .ok (.aload_n 0, 1) := by decide +kernel
theorem dX4_init_69 : decode cX4_init 69 = .ok (.iconst 1, 1) := by decide +kernel
theorem dX4_init_70 : decode cX4_init 70 = .ok (.putfield 48, 3) := by decide +kernel
theorem dX4_init_73 : decode cX4_init 73 = .ok (.iconst 0, 1) := by decide +kernel
theorem dX4_init_74 : decode cX4_init 74 = .ok (.istore_n 1, 1) := by decide +kernel
theorem dX4_init_75 : decode cX4_init 75 = .ok (.iload_n 1, 1) := by decide +kernel
theorem dX4_init_76 : decode cX4_init 76 = .ok (.iconst 4, 1) := by decide +kernel
theorem dX4_init_77 : decode cX4_init 77 = .ok (.if_icmp .ge 22, 3) := by decide +kernel
theorem dX4_init_80 : decode cX4_init 80 = .ok (.aload_n 0, 1) := by decide +kernel
theorem dX4_init_81 : decode cX4_init 81 = .ok (.getfield 30, 3) := by decide +kernel
theorem dX4_init_84 : decode cX4_init 84 = .ok (.iload_n 1, 1) := by decide +kernel
theorem dX4_init_85 : decode cX4_init 85 = .ok (.new 28, 3) := by decide +kernel
theorem dX4_init_88 : decode cX4_init 88 = .ok (.dup, 1) := by decide +kernel
theorem dX4_init_89 : decode cX4_init 89 = .ok (.invokespecial 51, 3) := by decide +kernel
theorem dX4_init_92 : decode cX4_init 92 = .ok (.aastore, 1) := by decide +kernel
theorem dX4_init_93 : decode cX4_init 93 = .ok (.iinc 1 1, 3) := by decide +kernel
theorem dX4_init_96 : decode cX4_init 96 = .ok (.goto (-21), 3) := by decide +kernel
theorem dX4_init_99 : decode cX4_init 99 = .ok (.return_, 1) := by decide +kernel
theorem dX4_copyFrom_0 : decode cX4_copyFrom 0 = .ok (.aload_n 0, 1) := by decide +kernel
theorem dX4_copyFrom_1 : decode cX4_copyFrom 1 = .ok (.getfield 12, 3) := by decide +kernel
theorem dX4_copyFrom_4 : decode cX4_copyFrom 4 = .ok (.aload_n 1, 1) := by decide +kernel
theorem dX4_copyFrom_5 : decode cX4_copyFrom 5 = .ok (.getfield 12, 3) := by decide +kernel
theorem dX4_copyFrom_8 : decode cX4_copyFrom 8 = .ok (.invokevirtual 52, 3) := by decide +kernel
theorem dX4_copyFrom_11 : decode cX4_copyFrom 11 = .ok (.aload_n 0, 1) := by decide +kernel
theorem dX4_copyFrom_12 : decode cX4_copyFrom 12 = .ok (.getfield 18, 3) := by decide +kernel
theorem dX4_copyFrom_15 : decode cX4_copyFrom 15 = .ok (.aload_n 1, 1) := by decide +kernel
theorem dX4_copyFrom_16 : decode cX4_copyFrom 16 = .ok (.getfield 18, 3) := by decide +kernel
theorem dX4_copyFrom_19 : decode cX4_copyFrom 19 = .ok (.invokevirtual 52, 3) := by decide +kernel
theorem dX4_copyFrom_22 : decode cX4_copyFrom 22 = .ok (.aload_n 0, 1) := by decide +kernel
theorem dX4_copyFrom_23 : decode cX4_copyFrom 23 = .ok (.getfield 24, 3) := by decide +kernel
theorem dX4_copyFrom_26 : decode cX4_copyFrom 26 = .ok (.aload_n 1, 1) := by decide +kernel
theorem dX4_copyFrom_27 : decode cX4_copyFrom 27 = .ok (.getfield 24, 3) := by decide +kernel
theorem dX4_copyFrom_30 : decode cX4_copyFrom 30 = .ok (.invokevirtual 56, 3) := by decide +kernel
theorem dX4_copyFrom_33 : decode cX4_copyFrom 33 = .ok (.iconst 0, 1) := by decide +kernel
theorem dX4_copyFrom_34 : decode cX4_copyFrom 34 = .ok (.istore_n 2, 1) := by decide +kernel
theorem dX4_copyFrom_35 : decode cX4_copyFrom 35 = .ok (.iload_n 2, 1) := by decide +kernel
theorem dX4_copyFrom_36 : decode cX4_copyFrom 36 = .ok (.iconst 4, 1) := by decide +kernel
theorem dX4_copyFrom_37 : decode cX4_copyFrom 37 = .ok (.if_icmp .ge 24, 3) := by decide +kernel
theorem dX4_copyFrom_40 : decode cX4_copyFrom 40 = .ok (.aload_n 0, 1) := by decide +kernel
theorem dX4_copyFrom_41 : decode cX4_copyFrom 41 = .ok (.getfield 30, 3) := by decide +kernel
theorem dX4_copyFrom_44 : decode cX4_copyFrom 44 = .ok (.iload_n 2, 1) := by decide +kernel
theorem dX4_copyFrom_45 : decode cX4_copyFrom 45 = .ok (.aaload, 1) := by decide +kernel
theorem dX4_copyFrom_46 : decode cX4_copyFrom 46 = .ok (.aload_n 1, 1) := by decide +kernel
theorem dX4_copyFrom_47 : decode cX4_copyFrom 47 = .ok (.getfield 30, 3) := by decide +kernel
theorem dX4_copyFrom_50 : decode cX4_copyFrom 50 = .ok (.iload_n 2, 1) := by decide +kernel
theorem dX4_copyFrom_51 : decode cX4_copyFrom 51 = .ok (.aaload, 1) := by decide +kernel
theorem dX4_copyFrom_52 : decode cX4_copyFrom 52 = .ok (.invokevirtual 59, 3) := by decide +kernel
theorem dX4_copyFrom_55 : decode cX4_copyFrom 55 = .ok (.iinc 2 1, 3) := by decide +kernel
theorem dX4_copyFrom_58 : decode cX4_copyFrom 58 = .ok (.goto (-23), 3) := by decide +kernel
theorem dX4_copyFrom_61 : decode cX4_copyFrom 61 = .ok (.aload_n 1, 1) := by decide +kernel
theorem dX4_copyFrom_62 : decode cX4_copyFrom 62 = .ok (.getfield 34, 3) := by decide +kernel
theorem dX4_copyFrom_65 : decode cX4_copyFrom 65 = .ok (.iconst 0, 1) := by decide +kernel
theorem dX4_copyFrom_66 : decode cX4_copyFrom 66 = .ok (.aload_n 0, 1) := by decide +kernel
theorem dX4_copyFrom_67 : decode cX4_copyFrom 67 = .ok (.getfield 34, 3) := by decide +kernel
theorem dX4_copyFrom_70 : decode cX4_copyFrom 70 = .ok (.iconst 0, 1) := by decide +kernel
theorem dX4_copyFrom_71 : decode cX4_copyFrom 71 = .ok (.bipush 8, 2) := by decide +kernel
theorem dX4_copyFrom_73 : decode cX4_copyFrom 73 = .ok (.invokestatic 62, 3) := by decide +kernel
theorem dX4_copyFrom_76 : decode cX4_copyFrom 76 = .ok (.aload_n 0, 1) := by decide +kernel
theorem dX4_copyFrom_77 : decode cX4_copyFrom 77 = .ok (.aload_n 1, 1) := by decide +kernel
theorem dX4_copyFrom_78 : decode cX4_copyFrom 78 = .ok (.getfield 38, 3) := by decide +kernel
theorem dX4_copyFrom_81 : decode cX4_copyFrom 81 = .ok (.putfield 38, 3) := by decide +kernel
theorem dX4_copyFrom_84 : decode cX4_copyFrom 84 = .ok (.aload_n 0, 1) := by decide +kernel
theorem dX4_copyFrom_85 : decode cX4_copyFrom 85 = .ok (.aload_n 1, 1) := by decide +kernel
theorem dX4_copyFrom_86 : decode cX4_copyFrom 86 = .ok (.getfield 42, 3) := by decide +kernel
theorem dX4_copyFrom_89 : decode cX4_copyFrom 89 = .ok (.putfield 42, 3) := by decide +kernel
theorem dX4_copyFrom_92 : decode cX4_copyFrom 92 = .ok (.aload_n 0, 1) := by decide +kernel
theorem dX4_copyFrom_93 : decode cX4_copyFrom 93 = .ok (.aload_n 1, 1) := by decide +kernel
theorem dX4_copyFrom_94 : decode cX4_copyFrom 94 = .ok (.getfield 45, 3) := by decide +kernel
theorem dX4_copyFrom_97 : decode cX4_copyFrom 97 = .ok (.putfield 45, 3) := by decide +kernel
theorem dX4_copyFrom_100 : decode cX4_copyFrom 100 = .ok (.aload_n 0, 1) := by decide +kernel
theorem dX4_copyFrom_101 : decode cX4_copyFrom 101 = .ok (.aload_n 1, 1) := by decide +kernel
theorem dX4_copyFrom_102 : decode cX4_copyFrom 102 = .ok (.getfield 48, 3) := by decide +kernel
theorem dX4_copyFrom_105 : decode cX4_copyFrom 105 = .ok (.putfield 48, 3) := by decide +kernel
theorem dX4_copyFrom_108 : decode cX4_copyFrom 108 = .ok (.return_, 1) := by decide +kernel
theorem dX4_coinageOf_0 : decode cX4_coinageOf 0 = .ok (.iload_n 1, 1) := by decide +kernel
theorem dX4_coinageOf_1 : decode cX4_coinageOf 1 = .ok (.ifCond .ne 8, 3) := by decide +kernel
theorem dX4_coinageOf_4 : decode cX4_coinageOf 4 = .ok (.aload_n 0, 1) := by decide +kernel
theorem dX4_coinageOf_5 : decode cX4_coinageOf 5 = .ok (.getfield 12, 3) := by decide +kernel
theorem dX4_coinageOf_8 : decode cX4_coinageOf 8 = .ok (.areturn, 1) := by decide +kernel
theorem dX4_coinageOf_9 : decode cX4_coinageOf 9 = .ok (.iload_n 1, 1) := by decide +kernel
theorem dX4_coinageOf_10 : decode cX4_coinageOf 10 = .ok (.iconst 1, 1) := by decide +kernel
theorem dX4_coinageOf_11 : decode cX4_coinageOf 11 = .ok (.if_icmp .ne 10, 3) := by decide +kernel
theorem dX4_coinageOf_14 : decode cX4_coinageOf 14 = .ok (.aload_n 0, 1) := by decide +kernel
theorem dX4_coinageOf_15 : decode cX4_coinageOf 15 = .ok (.getfield 18, 3) := by decide +kernel
theorem dX4_coinageOf_18 : decode cX4_coinageOf 18 = .ok (.goto 4, 3) := by decide +kernel
theorem dX4_coinageOf_21 : decode cX4_coinageOf 21 = .ok (.aconst_null, 1) := by decide +kernel
theorem dX4_coinageOf_22 : decode cX4_coinageOf 22 = .ok (.areturn, 1) := by decide +kernel
theorem dX4_tillAt_0 : decode cX4_tillAt 0 = .ok (.iconst 0, 1) := by decide +kernel
theorem dX4_tillAt_1 : decode cX4_tillAt 1 = .ok (.iload_n 1, 1) := by decide +kernel
theorem dX4_tillAt_2 : decode cX4_tillAt 2 = .ok (.aload_n 0, 1) := by decide +kernel
theorem dX4_tillAt_3 : decode cX4_tillAt 3 = .ok (.getfield 38, 3) := by decide +kernel
theorem dX4_tillAt_6 : decode cX4_tillAt 6 = .ok (.iconst 1, 1) := by decide +kernel
theorem dX4_tillAt_7 : decode cX4_tillAt 7 = .ok (.isub, 1) := by decide +kernel
theorem dX4_tillAt_8 : decode cX4_tillAt 8 = .ok (.invokestatic 68, 3) := by decide +kernel
theorem dX4_tillAt_11 : decode cX4_tillAt 11 = .ok (.ifCond .eq 12, 3) := by decide +kernel
theorem dX4_tillAt_14 : decode cX4_tillAt 14 = .ok (.aload_n 0, 1) := by decide +kernel
theorem dX4_tillAt_15 : decode cX4_tillAt 15 = .ok (.getfield 30, 3) := by decide +kernel
theorem dX4_tillAt_18 : decode cX4_tillAt 18 = .ok (.iload_n 1, 1) := by decide +kernel
theorem dX4_tillAt_19 : decode cX4_tillAt 19 = .ok (.aaload, 1) := by decide +kernel
theorem dX4_tillAt_20 : decode cX4_tillAt 20 = .ok (.goto 4, 3) := by decide +kernel
theorem dX4_tillAt_23 : decode cX4_tillAt 23 = .ok (.aconst_null, 1) := by decide +kernel
theorem dX4_tillAt_24 : decode cX4_tillAt 24 = .ok (.areturn, 1) := by decide +kernel
theorem dX4_isCoin_0 : decode cX4_isCoin 0 = .ok (.aload_n 0, 1) := by decide +kernel
theorem dX4_isCoin_1 : decode cX4_isCoin 1 = .ok (.iload_n 1, 1) := by decide +kernel
theorem dX4_isCoin_2 : decode cX4_isCoin 2 = .ok (.invokevirtual 72, 3) := by decide +kernel
theorem dX4_isCoin_5 : decode cX4_isCoin 5 = .ok (.astore_n 3, 1) := by decide +kernel
theorem dX4_isCoin_6 : decode cX4_isCoin 6 = .ok (.aload_n 3, 1) := by decide +kernel
theorem dX4_isCoin_7 : decode cX4_isCoin 7 = .ok (.ifnull 15, 3) := by decide +kernel
theorem dX4_isCoin_10 : decode cX4_isCoin 10 = .ok (.aload_n 3, 1) := by decide +kernel
theorem dX4_isCoin_11 : decode cX4_isCoin 11 = .ok (.iload_n 2, 1) := by decide +kernel
theorem dX4_isCoin_12 : decode cX4_isCoin 12 = .ok (.invokevirtual 76, 3) := by decide +kernel
theorem dX4_isCoin_15 : decode cX4_isCoin 15 = .ok (.ifCond .eq 7, 3) := by decide +kernel
theorem dX4_isCoin_18 : decode cX4_isCoin 18 = .ok (.iconst 1, 1) := by decide +kernel
theorem dX4_isCoin_19 : decode cX4_isCoin 19 = .ok (.goto 4, 3) := by decide +kernel
theorem dX4_isCoin_22 : decode cX4_isCoin 22 = .ok (.iconst 0, 1) := by decide +kernel
theorem dX4_isCoin_23 : decode cX4_isCoin 23 = .ok (.ireturn, 1) := by decide +kernel
theorem dX4_isSale_0 : decode cX4_isSale 0 = .ok (.iconst 1, 1) := by decide +kernel
theorem dX4_isSale_1 : decode cX4_isSale 1 = .ok (.iload_n 1, 1) := by decide +kernel
theorem dX4_isSale_2 : decode cX4_isSale 2 = .ok (.sipush 2000, 3) := by decide +kernel
theorem dX4_isSale_5 : decode cX4_isSale 5 = .ok (.invokestatic 68, 3) := by decide +kernel
theorem dX4_isSale_8 : decode cX4_isSale 8 = .ok (.ifCond .eq 27, 3) := by decide +kernel
theorem dX4_isSale_11 : decode cX4_isSale 11 = .ok (.iconst 1, 1) := by decide +kernel
theorem dX4_isSale_12 : decode cX4_isSale 12 = .ok (.iload 4, 2) := by decide +kernel
theorem dX4_isSale_14 : decode cX4_isSale 14 = .ok (.bipush 50, 2) := by decide +kernel
theorem dX4_isSale_16 : decode cX4_isSale 16 = .ok (.invokestatic 68, 3) := by decide +kernel
theorem dX4_isSale_19 : decode cX4_isSale 19 = .ok (.ifCond .eq 16, 3) := by decide +kernel
theorem dX4_isSale_22 : decode cX4_isSale 22 = .ok (.aload_n 0, 1) := by decide +kernel
theorem dX4_isSale_23 : decode cX4_isSale 23 = .ok (.iload_n 2, 1) := by decide +kernel
theorem dX4_isSale_24 : decode cX4_isSale 24 = .ok (.iload_n 3, 1) := by decide +kernel
theorem dX4_isSale_25 : decode cX4_isSale 25 = .ok (.invokevirtual 80, 3) := by decide +kernel
theorem dX4_isSale_28 : decode cX4_isSale 28 = .ok (.ifCond .eq 7, 3) := by decide +kernel
theorem dX4_isSale_31 : decode cX4_isSale 31 = .ok (.iconst 1, 1) := by decide +kernel
theorem dX4_isSale_32 : decode cX4_isSale 32 = .ok (.goto 4, 3) := by decide +kernel
theorem dX4_isSale_35 : decode cX4_isSale 35 = .ok (.iconst 0, 1) := by decide +kernel
theorem dX4_isSale_36 : decode cX4_isSale 36 = .ok (.ireturn, 1) := by decide +kernel
theorem dX4_hasSold_0 : decode cX4_hasSold 0 = .ok (.iconst 0, 1) := by decide +kernel
theorem dX4_hasSold_1 : decode cX4_hasSold 1 = .ok (.istore_n 1, 1) := by decide +kernel
theorem dX4_hasSold_2 : decode cX4_hasSold 2 = .ok (.iload_n 1, 1) := by decide +kernel
theorem dX4_hasSold_3 : decode cX4_hasSold 3 = .ok (.aload_n 0, 1) := by decide +kernel
theorem dX4_hasSold_4 : decode cX4_hasSold 4 = .ok (.getfield 38, 3) := by decide +kernel
theorem dX4_hasSold_7 : decode cX4_hasSold 7 = .ok (.if_icmp .ge 23, 3) := by decide +kernel
theorem dX4_hasSold_10 : decode cX4_hasSold 10 = .ok (.aload_n 0, 1) := by decide +kernel
theorem dX4_hasSold_11 : decode cX4_hasSold 11 = .ok (.getfield 30, 3) := by decide +kernel
theorem dX4_hasSold_14 : decode cX4_hasSold 14 = .ok (.iload_n 1, 1) := by decide +kernel
theorem dX4_hasSold_15 : decode cX4_hasSold 15 = .ok (.aaload, 1) := by decide +kernel
theorem dX4_hasSold_16 : decode cX4_hasSold 16 = .ok (.getfield 83, 3) := by decide +kernel
theorem dX4_hasSold_19 : decode cX4_hasSold 19 = .ok (.ifCond .le 5, 3) := by decide +kernel
theorem dX4_hasSold_22 : decode cX4_hasSold 22 = .ok (.iconst 1, 1) := by decide +kernel
theorem dX4_hasSold_23 : decode cX4_hasSold 23 = .ok (.ireturn, 1) := by decide +kernel
theorem dX4_hasSold_24 : decode cX4_hasSold 24 = .ok (.iinc 1 1, 3) := by decide +kernel
theorem dX4_hasSold_27 : decode cX4_hasSold 27 = .ok (.goto (-25), 3) := by decide +kernel
theorem dX4_hasSold_30 : decode cX4_hasSold 30 = .ok (.iconst 0, 1) := by decide +kernel
theorem dX4_hasSold_31 : decode cX4_hasSold 31 = .ok (.ireturn, 1) := by decide +kernel
theorem dX4_unitParts_0 : decode cX4_unitParts 0 = .ok (.iload_n 1, 1) := by decide +kernel
theorem dX4_unitParts_1 : decode cX4_unitParts 1 = .ok (.ifCond .ne 10, 3) := by decide +kernel
theorem dX4_unitParts_4 : decode cX4_unitParts 4 = .ok (.aload_n 0, 1) := by decide +kernel
theorem dX4_unitParts_5 : decode cX4_unitParts 5 = .ok (.getfield 42, 3) := by decide +kernel
theorem dX4_unitParts_8 : decode cX4_unitParts 8 = .ok (.goto 7, 3) := by decide +kernel
theorem dX4_unitParts_11 : decode cX4_unitParts 11 = .ok (.aload_n 0, 1) := by decide +kernel
theorem dX4_unitParts_12 : decode cX4_unitParts 12 = .ok (.getfield 45, 3) := by decide +kernel
theorem dX4_unitParts_15 : decode cX4_unitParts 15 = .ok (.ireturn, 1) := by decide +kernel
theorem dX4_spareParts_0 : decode cX4_spareParts 0 = .ok (.aload_n 0, 1) := by decide +kernel
theorem dX4_spareParts_1 : decode cX4_spareParts 1 = .ok (.iload_n 2, 1) := by decide +kernel
theorem dX4_spareParts_2 : decode cX4_spareParts 2 = .ok (.invokevirtual 72, 3) := by decide +kernel
theorem dX4_spareParts_5 : decode cX4_spareParts 5 = .ok (.astore 5, 2) := by decide +kernel
theorem dX4_spareParts_7 : decode cX4_spareParts 7 = .ok (.aload 5, 2) := by decide +kernel
theorem dX4_spareParts_9 : decode cX4_spareParts 9 = .ok (.ifnull 12, 3) := by decide +kernel
theorem dX4_spareParts_12 : decode cX4_spareParts 12 = .ok (.aload 5, 2) := by decide +kernel
theorem dX4_spareParts_14 : decode cX4_spareParts 14 = .ok (.iload_n 3, 1) := by decide +kernel
theorem dX4_spareParts_15 : decode cX4_spareParts 15 = .ok (.invokevirtual 76, 3) := by decide +kernel
theorem dX4_spareParts_18 : decode cX4_spareParts 18 = .ok (.ifCond .ne 5, 3) := by decide +kernel
theorem dX4_spareParts_21 : decode cX4_spareParts 21 = .ok (.iconst (-1), 1) := by decide +kernel
theorem dX4_spareParts_22 : decode cX4_spareParts 22 = .ok (.ireturn, 1) := by decide +kernel
theorem dX4_spareParts_23 : decode cX4_spareParts 23 = .ok (.iload 4, 2) := by decide +kernel
theorem dX4_spareParts_25 : decode cX4_spareParts 25 = .ok (.aload 5, 2) := by decide +kernel
theorem dX4_spareParts_27 : decode cX4_spareParts 27 = .ok (.getfield 86, 3) := by decide +kernel
theorem dX4_spareParts_30 : decode cX4_spareParts 30 = .ok (.iload_n 3, 1) := by decide +kernel
theorem dX4_spareParts_31 : decode cX4_spareParts 31 = .ok (.iaload, 1) := by decide +kernel
theorem dX4_spareParts_32 : decode cX4_spareParts 32 = .ok (.imul, 1) := by decide +kernel
theorem dX4_spareParts_33 : decode cX4_spareParts 33 = .ok (.aload_n 0, 1) := by decide +kernel
theorem dX4_spareParts_34 : decode cX4_spareParts 34 = .ok (.iload_n 2, 1) := by decide +kernel
theorem dX4_spareParts_35 : decode cX4_spareParts 35 = .ok (.invokevirtual 89, 3) := by decide +kernel
theorem dX4_spareParts_38 : decode cX4_spareParts 38 = .ok (.imul, 1) := by decide +kernel
theorem dX4_spareParts_39 : decode cX4_spareParts 39 = .ok (.iload_n 1, 1) := by decide +kernel
theorem dX4_spareParts_40 : decode cX4_spareParts 40 = .ok (.aload_n 0, 1) := by decide +kernel
theorem dX4_spareParts_41 : decode cX4_spareParts 41 = .ok (.getfield 45, 3) := by decide +kernel
theorem dX4_spareParts_44 : decode cX4_spareParts 44 = .ok (.imul, 1) := by decide +kernel
theorem dX4_spareParts_45 : decode cX4_spareParts 45 = .ok (.isub, 1) := by decide +kernel
theorem dX4_spareParts_46 : decode cX4_spareParts 46 = .ok (.ireturn, 1) := by decide +kernel
theorem dX4_partsOf_0 : decode cX4_partsOf 0 = .ok (.aload_n 0, 1) := by decide +kernel
theorem dX4_partsOf_1 : decode cX4_partsOf 1 = .ok (.iload_n 1, 1) := by decide +kernel
theorem dX4_partsOf_2 : decode cX4_partsOf 2 = .ok (.invokevirtual 72, 3) := by decide +kernel
theorem dX4_partsOf_5 : decode cX4_partsOf 5 = .ok (.astore_n 3, 1) := by decide +kernel
theorem dX4_partsOf_6 : decode cX4_partsOf 6 = .ok (.lconst 0, 1) := by decide +kernel
theorem dX4_partsOf_7 : decode cX4_partsOf 7 = .ok (.lstore 4, 2) := by decide +kernel
theorem dX4_partsOf_9 : decode cX4_partsOf 9 = .ok (.aload_n 3, 1) := by decide +kernel
theorem dX4_partsOf_10 : decode cX4_partsOf 10 = .ok (.ifnull 40, 3) := by decide +kernel
theorem dX4_partsOf_13 : decode cX4_partsOf 13 = .ok (.iconst 0, 1) := by decide +kernel
theorem dX4_partsOf_14 : decode cX4_partsOf 14 = .ok (.istore 6, 2) := by decide +kernel
theorem dX4_partsOf_16 : decode cX4_partsOf 16 = .ok (.iload 6, 2) := by decide +kernel
theorem dX4_partsOf_18 : decode cX4_partsOf 18 = .ok (.aload_n 3, 1) := by decide +kernel
theorem dX4_partsOf_19 : decode cX4_partsOf 19 = .ok (.getfield 93, 3) := by decide +kernel
theorem dX4_partsOf_22 : decode cX4_partsOf 22 = .ok (.if_icmp .ge 28, 3) := by decide +kernel
theorem dX4_partsOf_25 : decode cX4_partsOf 25 = .ok (.lload 4, 2) := by decide +kernel
theorem dX4_partsOf_27 : decode cX4_partsOf 27 = .ok (.aload_n 2, 1) := by decide +kernel
theorem dX4_partsOf_28 : decode cX4_partsOf 28 = .ok (.iload 6, 2) := by decide +kernel
theorem dX4_partsOf_30 : decode cX4_partsOf 30 = .ok (.iaload, 1) := by decide +kernel
theorem dX4_partsOf_31 : decode cX4_partsOf 31 = .ok (.i2l, 1) := by decide +kernel
theorem dX4_partsOf_32 : decode cX4_partsOf 32 = .ok (.aload_n 3, 1) := by decide +kernel
theorem dX4_partsOf_33 : decode cX4_partsOf 33 = .ok (.getfield 86, 3) := by decide +kernel
theorem dX4_partsOf_36 : decode cX4_partsOf 36 = .ok (.iload 6, 2) := by decide +kernel
theorem dX4_partsOf_38 : decode cX4_partsOf 38 = .ok (.iaload, 1) := by decide +kernel
theorem dX4_partsOf_39 : decode cX4_partsOf 39 = .ok (.i2l, 1) := by decide +kernel
theorem dX4_partsOf_40 : decode cX4_partsOf 40 = .ok (.lmul, 1) := by decide +kernel
theorem dX4_partsOf_41 : decode cX4_partsOf 41 = .ok (.ladd, 1) := by decide +kernel
theorem dX4_partsOf_42 : decode cX4_partsOf 42 = .ok (.lstore 4, 2) := by decide +kernel
theorem dX4_partsOf_44 : decode cX4_partsOf 44 = .ok (.iinc 6 1, 3) := by decide +kernel
theorem dX4_partsOf_47 : decode cX4_partsOf 47 = .ok (.goto (-31), 3) := by decide +kernel
theorem dX4_partsOf_50 : decode cX4_partsOf 50 = .ok (.lload 4, 2) := by decide +kernel
theorem dX4_partsOf_52 : decode cX4_partsOf 52 = .ok (.aload_n 0, 1) := by decide +kernel
theorem dX4_partsOf_53 : decode cX4_partsOf 53 = .ok (.iload_n 1, 1) := by decide +kernel
theorem dX4_partsOf_54 : decode cX4_partsOf 54 = .ok (.invokevirtual 89, 3) := by decide +kernel
theorem dX4_partsOf_57 : decode cX4_partsOf 57 = .ok (.i2l, 1) := by decide +kernel
theorem dX4_partsOf_58 : decode cX4_partsOf 58 = .ok (.lmul, 1) := by decide +kernel
theorem dX4_partsOf_59 : decode cX4_partsOf 59 = .ok (.lreturn, 1) := by decide +kernel
theorem dX4_newPrice_0 : decode cX4_newPrice 0 = .ok (.aload_n 0, 1) := by decide +kernel
theorem dX4_newPrice_1 : decode cX4_newPrice 1 = .ok (.getfield 24, 3) := by decide +kernel
theorem dX4_newPrice_4 : decode cX4_newPrice 4 = .ok (.getfield 96, 3) := by decide +kernel
theorem dX4_newPrice_7 : decode cX4_newPrice 7 = .ok (.iload_n 1, 1) := by decide +kernel
theorem dX4_newPrice_8 : decode cX4_newPrice 8 = .ok (.iaload, 1) := by decide +kernel
theorem dX4_newPrice_9 : decode cX4_newPrice 9 = .ok (.aload_n 0, 1) := by decide +kernel
theorem dX4_newPrice_10 : decode cX4_newPrice 10 = .ok (.getfield 42, 3) := by decide +kernel
theorem dX4_newPrice_13 : decode cX4_newPrice 13 = .ok (.imul, 1) := by decide +kernel
theorem dX4_newPrice_14 : decode cX4_newPrice 14 = .ok (.istore_n 3, 1) := by decide +kernel
theorem dX4_newPrice_15 : decode cX4_newPrice 15 = .ok (.aload_n 0, 1) := by decide +kernel
theorem dX4_newPrice_16 : decode cX4_newPrice 16 = .ok (.getfield 48, 3) := by decide +kernel
theorem dX4_newPrice_19 : decode cX4_newPrice 19 = .ok (.aload_n 0, 1) := by decide +kernel
theorem dX4_newPrice_20 : decode cX4_newPrice 20 = .ok (.getfield 45, 3) := by decide +kernel
theorem dX4_newPrice_23 : decode cX4_newPrice 23 = .ok (.imul, 1) := by decide +kernel
theorem dX4_newPrice_24 : decode cX4_newPrice 24 = .ok (.istore 4, 2) := by decide +kernel
theorem dX4_newPrice_26 : decode cX4_newPrice 26 = .ok (.iload_n 3, 1) := by decide +kernel
theorem dX4_newPrice_27 : decode cX4_newPrice 27 = .ok (.iload 4, 2) := by decide +kernel
theorem dX4_newPrice_29 : decode cX4_newPrice 29 = .ok (.invokestatic 99, 3) := by decide +kernel
theorem dX4_newPrice_32 : decode cX4_newPrice 32 = .ok (.istore 5, 2) := by decide +kernel
theorem dX4_newPrice_34 : decode cX4_newPrice 34 = .ok (.iload_n 3, 1) := by decide +kernel
theorem dX4_newPrice_35 : decode cX4_newPrice 35 = .ok (.iload 5, 2) := by decide +kernel
theorem dX4_newPrice_37 : decode cX4_newPrice 37 = .ok (.iload 4, 2) := by decide +kernel
theorem dX4_newPrice_39 : decode cX4_newPrice 39 = .ok (.imul, 1) := by decide +kernel
theorem dX4_newPrice_40 : decode cX4_newPrice 40 = .ok (.isub, 1) := by decide +kernel
theorem dX4_newPrice_41 : decode cX4_newPrice 41 = .ok (.istore 6, 2) := by decide +kernel
theorem dX4_newPrice_43 : decode cX4_newPrice 43 = .ok (.iload_n 2, 1) := by decide +kernel
theorem dX4_newPrice_44 : decode cX4_newPrice 44 = .ok (.iload 5, 2) := by decide +kernel
theorem dX4_newPrice_46 : decode cX4_newPrice 46 = .ok (.iload 6, 2) := by decide +kernel
theorem dX4_newPrice_48 : decode cX4_newPrice 48 = .ok (.iload 4, 2) := by decide +kernel
theorem dX4_newPrice_50 : decode cX4_newPrice 50 = .ok (.invokestatic 103, 3) := by decide +kernel
theorem dX4_newPrice_53 : decode cX4_newPrice 53 = .ok (.ifCond .eq 10, 3) := by decide +kernel
theorem dX4_newPrice_56 : decode cX4_newPrice 56 = .ok (.iload 5, 2) := by decide +kernel
theorem dX4_newPrice_58 : decode cX4_newPrice 58 = .ok (.iconst 1, 1) := by decide +kernel
theorem dX4_newPrice_59 : decode cX4_newPrice 59 = .ok (.iadd, 1) := by decide +kernel
theorem dX4_newPrice_60 : decode cX4_newPrice 60 = .ok (.goto 5, 3) := by decide +kernel
theorem dX4_newPrice_63 : decode cX4_newPrice 63 = .ok (.iload 5, 2) := by decide +kernel
theorem dX4_newPrice_65 : decode cX4_newPrice 65 = .ok (.aload_n 0, 1) := by decide +kernel
theorem dX4_newPrice_66 : decode cX4_newPrice 66 = .ok (.getfield 48, 3) := by decide +kernel
theorem dX4_newPrice_69 : decode cX4_newPrice 69 = .ok (.imul, 1) := by decide +kernel
theorem dX4_newPrice_70 : decode cX4_newPrice 70 = .ok (.ireturn, 1) := by decide +kernel
theorem dX4_roundsUp_0 : decode cX4_roundsUp 0 = .ok (.iload_n 0, 1) := by decide +kernel
theorem dX4_roundsUp_1 : decode cX4_roundsUp 1 = .ok (.tableswitch 77 1 3 #[27, 37, 50], 27) := by decide +kernel
theorem dX4_roundsUp_28 : decode cX4_roundsUp 28 = .ok (.iload_n 2, 1) := by decide +kernel
theorem dX4_roundsUp_29 : decode cX4_roundsUp 29 = .ok (.ifCond .le 7, 3) := by decide +kernel
theorem dX4_roundsUp_32 : decode cX4_roundsUp 32 = .ok (.iconst 1, 1) := by decide +kernel
theorem dX4_roundsUp_33 : decode cX4_roundsUp 33 = .ok (.goto 4, 3) := by decide +kernel
theorem dX4_roundsUp_36 : decode cX4_roundsUp 36 = .ok (.iconst 0, 1) := by decide +kernel
theorem dX4_roundsUp_37 : decode cX4_roundsUp 37 = .ok (.ireturn, 1) := by decide +kernel
theorem dX4_roundsUp_38 : decode cX4_roundsUp 38 = .ok (.iconst 2, 1) := by decide +kernel
theorem dX4_roundsUp_39 : decode cX4_roundsUp 39 = .ok (.iload_n 2, 1) := by decide +kernel
theorem dX4_roundsUp_40 : decode cX4_roundsUp 40 = .ok (.imul, 1) := by decide +kernel
theorem dX4_roundsUp_41 : decode cX4_roundsUp 41 = .ok (.iload_n 3, 1) := by decide +kernel
theorem dX4_roundsUp_42 : decode cX4_roundsUp 42 = .ok (.if_icmp .lt 7, 3) := by decide +kernel
theorem dX4_roundsUp_45 : decode cX4_roundsUp 45 = .ok (.iconst 1, 1) := by decide +kernel
theorem dX4_roundsUp_46 : decode cX4_roundsUp 46 = .ok (.goto 4, 3) := by decide +kernel
theorem dX4_roundsUp_49 : decode cX4_roundsUp 49 = .ok (.iconst 0, 1) := by decide +kernel
theorem dX4_roundsUp_50 : decode cX4_roundsUp 50 = .ok (.ireturn, 1) := by decide +kernel
theorem dX4_roundsUp_51 : decode cX4_roundsUp 51 = .ok (.iconst 2, 1) := by decide +kernel
theorem dX4_roundsUp_52 : decode cX4_roundsUp 52 = .ok (.iload_n 2, 1) := by decide +kernel
theorem dX4_roundsUp_53 : decode cX4_roundsUp 53 = .ok (.imul, 1) := by decide +kernel
theorem dX4_roundsUp_54 : decode cX4_roundsUp 54 = .ok (.iload_n 3, 1) := by decide +kernel
theorem dX4_roundsUp_55 : decode cX4_roundsUp 55 = .ok (.if_icmp .gt 17, 3) := by decide +kernel
theorem dX4_roundsUp_58 : decode cX4_roundsUp 58 = .ok (.iconst 2, 1) := by decide +kernel
theorem dX4_roundsUp_59 : decode cX4_roundsUp 59 = .ok (.iload_n 2, 1) := by decide +kernel
theorem dX4_roundsUp_60 : decode cX4_roundsUp 60 = .ok (.imul, 1) := by decide +kernel
theorem dX4_roundsUp_61 : decode cX4_roundsUp 61 = .ok (.iload_n 3, 1) := by decide +kernel
theorem dX4_roundsUp_62 : decode cX4_roundsUp 62 = .ok (.if_icmp .ne 14, 3) := by decide +kernel
theorem dX4_roundsUp_65 : decode cX4_roundsUp 65 = .ok (.iload_n 1, 1) := by decide +kernel
theorem dX4_roundsUp_66 : decode cX4_roundsUp 66 = .ok (.iconst 1, 1) := by decide +kernel
theorem dX4_roundsUp_67 : decode cX4_roundsUp 67 = .ok (.iand, 1) := by decide +kernel
theorem dX4_roundsUp_68 : decode cX4_roundsUp 68 = .ok (.iconst 1, 1) := by decide +kernel
theorem dX4_roundsUp_69 : decode cX4_roundsUp 69 = .ok (.if_icmp .ne 7, 3) := by decide +kernel
theorem dX4_roundsUp_72 : decode cX4_roundsUp 72 = .ok (.iconst 1, 1) := by decide +kernel
theorem dX4_roundsUp_73 : decode cX4_roundsUp 73 = .ok (.goto 4, 3) := by decide +kernel
theorem dX4_roundsUp_76 : decode cX4_roundsUp 76 = .ok (.iconst 0, 1) := by decide +kernel
theorem dX4_roundsUp_77 : decode cX4_roundsUp 77 = .ok (.ireturn, 1) := by decide +kernel
theorem dX4_roundsUp_78 : decode cX4_roundsUp 78 = .ok (.iconst 0, 1) := by decide +kernel
theorem dX4_roundsUp_79 : decode cX4_roundsUp 79 = .ok (.ireturn, 1) := by decide +kernel
theorem dX4_gainOf_0 : decode cX4_gainOf 0 = .ok (.aload_n 0, 1) := by decide +kernel
theorem dX4_gainOf_1 : decode cX4_gainOf 1 = .ok (.iload_n 1, 1) := by decide +kernel
theorem dX4_gainOf_2 : decode cX4_gainOf 2 = .ok (.iload_n 2, 1) := by decide +kernel
theorem dX4_gainOf_3 : decode cX4_gainOf 3 = .ok (.invokevirtual 107, 3) := by decide +kernel
theorem dX4_gainOf_6 : decode cX4_gainOf 6 = .ok (.i2l, 1) := by decide +kernel
theorem dX4_gainOf_7 : decode cX4_gainOf 7 = .ok (.aload_n 0, 1) := by decide +kernel
theorem dX4_gainOf_8 : decode cX4_gainOf 8 = .ok (.getfield 45, 3) := by decide +kernel
theorem dX4_gainOf_11 : decode cX4_gainOf 11 = .ok (.i2l, 1) := by decide +kernel
theorem dX4_gainOf_12 : decode cX4_gainOf 12 = .ok (.lmul, 1) := by decide +kernel
theorem dX4_gainOf_13 : decode cX4_gainOf 13 = .ok (.aload_n 0, 1) := by decide +kernel
theorem dX4_gainOf_14 : decode cX4_gainOf 14 = .ok (.getfield 24, 3) := by decide +kernel
theorem dX4_gainOf_17 : decode cX4_gainOf 17 = .ok (.getfield 96, 3) := by decide +kernel
theorem dX4_gainOf_20 : decode cX4_gainOf 20 = .ok (.iload_n 1, 1) := by decide +kernel
theorem dX4_gainOf_21 : decode cX4_gainOf 21 = .ok (.iaload, 1) := by decide +kernel
theorem dX4_gainOf_22 : decode cX4_gainOf 22 = .ok (.i2l, 1) := by decide +kernel
theorem dX4_gainOf_23 : decode cX4_gainOf 23 = .ok (.aload_n 0, 1) := by decide +kernel
theorem dX4_gainOf_24 : decode cX4_gainOf 24 = .ok (.getfield 42, 3) := by decide +kernel
theorem dX4_gainOf_27 : decode cX4_gainOf 27 = .ok (.i2l, 1) := by decide +kernel
theorem dX4_gainOf_28 : decode cX4_gainOf 28 = .ok (.lmul, 1) := by decide +kernel
theorem dX4_gainOf_29 : decode cX4_gainOf 29 = .ok (.lsub, 1) := by decide +kernel
theorem dX4_gainOf_30 : decode cX4_gainOf 30 = .ok (.lstore_n 3, 1) := by decide +kernel
theorem dX4_gainOf_31 : decode cX4_gainOf 31 = .ok (.lload_n 3, 1) := by decide +kernel
theorem dX4_gainOf_32 : decode cX4_gainOf 32 = .ok (.aload_n 0, 1) := by decide +kernel
theorem dX4_gainOf_33 : decode cX4_gainOf 33 = .ok (.getfield 24, 3) := by decide +kernel
theorem dX4_gainOf_36 : decode cX4_gainOf 36 = .ok (.getfield 110, 3) := by decide +kernel
theorem dX4_gainOf_39 : decode cX4_gainOf 39 = .ok (.iload_n 1, 1) := by decide +kernel
theorem dX4_gainOf_40 : decode cX4_gainOf 40 = .ok (.iaload, 1) := by decide +kernel
theorem dX4_gainOf_41 : decode cX4_gainOf 41 = .ok (.i2l, 1) := by decide +kernel
theorem dX4_gainOf_42 : decode cX4_gainOf 42 = .ok (.lmul, 1) := by decide +kernel
theorem dX4_gainOf_43 : decode cX4_gainOf 43 = .ok (.lreturn, 1) := by decide +kernel
theorem dX4_detail_0 : decode cX4_detail 0 = .ok (.iload_n 1, 1) := by decide +kernel
theorem dX4_detail_1 : decode cX4_detail 1 = .ok (.tableswitch 63 0 4 #[35, 43, 48, 53, 58], 35) := by decide +kernel
theorem dX4_detail_36 : decode cX4_detail 36 = .ok (.aload_n 0, 1) := by decide +kernel
theorem dX4_detail_37 : decode cX4_detail 37 = .ok (.getfield 24, 3) := by decide +kernel
theorem dX4_detail_40 : decode cX4_detail 40 = .ok (.getfield 113, 3) := by decide +kernel
theorem dX4_detail_43 : decode cX4_detail 43 = .ok (.ireturn, 1) := by decide +kernel
theorem dX4_detail_44 : decode cX4_detail 44 = .ok (.aload_n 0, 1) := by decide +kernel
theorem dX4_detail_45 : decode cX4_detail 45 = .ok (.getfield 38, 3) := by decide +kernel
theorem dX4_detail_48 : decode cX4_detail 48 = .ok (.ireturn, 1) := by decide +kernel
theorem dX4_detail_49 : decode cX4_detail 49 = .ok (.aload_n 0, 1) := by decide +kernel
theorem dX4_detail_50 : decode cX4_detail 50 = .ok (.getfield 42, 3) := by decide +kernel
theorem dX4_detail_53 : decode cX4_detail 53 = .ok (.ireturn, 1) := by decide +kernel
theorem dX4_detail_54 : decode cX4_detail 54 = .ok (.aload_n 0, 1) := by decide +kernel
theorem dX4_detail_55 : decode cX4_detail 55 = .ok (.getfield 45, 3) := by decide +kernel
theorem dX4_detail_58 : decode cX4_detail 58 = .ok (.ireturn, 1) := by decide +kernel
theorem dX4_detail_59 : decode cX4_detail 59 = .ok (.aload_n 0, 1) := by decide +kernel
theorem dX4_detail_60 : decode cX4_detail 60 = .ok (.getfield 48, 3) := by decide +kernel
theorem dX4_detail_63 : decode cX4_detail 63 = .ok (.ireturn, 1) := by decide +kernel
theorem dX4_detail_64 : decode cX4_detail 64 = .ok (.aload_n 0, 1) := by decide +kernel
theorem dX4_detail_65 : decode cX4_detail 65 = .ok (.iload_n 1, 1) := by decide +kernel
theorem dX4_detail_66 : decode cX4_detail 66 = .ok (.invokevirtual 114, 3) := by decide +kernel
theorem dX4_detail_69 : decode cX4_detail 69 = .ok (.ireturn, 1) := by decide +kernel
theorem dX4_goodDetail_0 : decode cX4_goodDetail 0 = .ok (.aload_n 0, 1) := by decide +kernel
theorem dX4_goodDetail_1 : decode cX4_goodDetail 1 = .ok (.getfield 24, 3) := by decide +kernel
theorem dX4_goodDetail_4 : decode cX4_goodDetail 4 = .ok (.iload_n 1, 1) := by decide +kernel
theorem dX4_goodDetail_5 : decode cX4_goodDetail 5 = .ok (.bipush 10, 2) := by decide +kernel
theorem dX4_goodDetail_7 : decode cX4_goodDetail 7 = .ok (.isub, 1) := by decide +kernel
theorem dX4_goodDetail_8 : decode cX4_goodDetail 8 = .ok (.invokevirtual 117, 3) := by decide +kernel
theorem dX4_goodDetail_11 : decode cX4_goodDetail 11 = .ok (.ifCond .eq 16, 3) := by decide +kernel
theorem dX4_goodDetail_14 : decode cX4_goodDetail 14 = .ok (.aload_n 0, 1) := by decide +kernel
theorem dX4_goodDetail_15 : decode cX4_goodDetail 15 = .ok (.getfield 24, 3) := by decide +kernel
theorem dX4_goodDetail_18 : decode cX4_goodDetail 18 = .ok (.getfield 96, 3) := by decide +kernel
theorem dX4_goodDetail_21 : decode cX4_goodDetail 21 = .ok (.iload_n 1, 1) := by decide +kernel
theorem dX4_goodDetail_22 : decode cX4_goodDetail 22 = .ok (.bipush 10, 2) := by decide +kernel
theorem dX4_goodDetail_24 : decode cX4_goodDetail 24 = .ok (.isub, 1) := by decide +kernel
theorem dX4_goodDetail_25 : decode cX4_goodDetail 25 = .ok (.iaload, 1) := by decide +kernel
theorem dX4_goodDetail_26 : decode cX4_goodDetail 26 = .ok (.ireturn, 1) := by decide +kernel
theorem dX4_goodDetail_27 : decode cX4_goodDetail 27 = .ok (.aload_n 0, 1) := by decide +kernel
theorem dX4_goodDetail_28 : decode cX4_goodDetail 28 = .ok (.getfield 24, 3) := by decide +kernel
theorem dX4_goodDetail_31 : decode cX4_goodDetail 31 = .ok (.iload_n 1, 1) := by decide +kernel
theorem dX4_goodDetail_32 : decode cX4_goodDetail 32 = .ok (.bipush 30, 2) := by decide +kernel
theorem dX4_goodDetail_34 : decode cX4_goodDetail 34 = .ok (.isub, 1) := by decide +kernel
theorem dX4_goodDetail_35 : decode cX4_goodDetail 35 = .ok (.invokevirtual 117, 3) := by decide +kernel
theorem dX4_goodDetail_38 : decode cX4_goodDetail 38 = .ok (.ifCond .eq 18, 3) := by decide +kernel
theorem dX4_goodDetail_41 : decode cX4_goodDetail 41 = .ok (.aload_n 0, 1) := by decide +kernel
theorem dX4_goodDetail_42 : decode cX4_goodDetail 42 = .ok (.getfield 24, 3) := by decide +kernel
theorem dX4_goodDetail_45 : decode cX4_goodDetail 45 = .ok (.getfield 110, 3) := by decide +kernel
theorem dX4_goodDetail_48 : decode cX4_goodDetail 48 = .ok (.iload_n 1, 1) := by decide +kernel
theorem dX4_goodDetail_49 : decode cX4_goodDetail 49 = .ok (.bipush 30, 2) := by decide +kernel
theorem dX4_goodDetail_51 : decode cX4_goodDetail 51 = .ok (.isub, 1) := by decide +kernel
theorem dX4_goodDetail_52 : decode cX4_goodDetail 52 = .ok (.iaload, 1) := by decide +kernel
theorem dX4_goodDetail_53 : decode cX4_goodDetail 53 = .ok (.goto 4, 3) := by decide +kernel
theorem dX4_goodDetail_56 : decode cX4_goodDetail 56 = .ok (.iconst (-1), 1) := by decide +kernel
theorem dX4_goodDetail_57 : decode cX4_goodDetail 57 = .ok (.ireturn, 1) := by decide +kernel
theorem dX5_init_0 : decode cX5_init 0 = .ok (.aload_n 0, 1) := by decide +kernel
theorem dX5_init_1 : decode cX5_init 1 = .ok (.invokespecial 3, 3) := by decide +kernel
theorem dX5_init_4 : decode cX5_init 4 = .ok (.aload_n 0, 1) := by decide +kernel
theorem dX5_init_5 : decode cX5_init 5 = .ok (.bipush 8, 2) := by decide +kernel
theorem dX5_init_7 : decode cX5_init 7 = .ok (.newarray .int, 2) := by decide +kernel
theorem dX5_init_9 : decode cX5_init 9 = .ok (.putfield 9, 3) := by decide +kernel
theorem dX5_init_12 : decode cX5_init 12 = .ok (.aload_n 0, 1) := by decide +kernel
theorem dX5_init_13 : decode cX5_init 13 = .ok (.bipush 8, 2) := by decide +kernel
theorem dX5_init_15 : decode cX5_init 15 = .ok (.newarray .int, 2) := by decide +kernel
theorem dX5_init_17 : decode cX5_init 17 = .ok (.putfield 15, 3) := by decide +kernel
theorem dX5_init_20 : decode cX5_init 20 = .ok (.aload_n 0, 1) := by decide +kernel
theorem dX5_init_21 : decode cX5_init 21 = .ok (.bipush 8, 2) := by decide +kernel
theorem dX5_init_23 : decode cX5_init 23 = .ok (.newarray .int, 2) := by decide +kernel
theorem dX5_init_25 : decode cX5_init 25 = .ok (.putfield 18, 3) := by decide +kernel
theorem dX5_init_28 : decode cX5_init 28 = .ok (.aload_n 0, 1) := by decide +kernel
theorem dX5_init_29 : decode cX5_init 29 = .ok (.new 21, 3) := by decide +kernel
theorem dX5_init_32 : decode cX5_init 32 = .ok (.dup, 1) := by decide +kernel
theorem dX5_init_33 : decode cX5_init 33 = .ok (.invokespecial 23, 3) := by decide +kernel
theorem dX5_init_36 : decode cX5_init 36 = .ok (.putfield 24, 3) := by decide +kernel
theorem dX5_init_39 : decode cX5_init 39 = .ok (.aload_n 0, 1) := by decide +kernel
theorem dX5_init_40 : decode cX5_init 40 = .ok (.iconst 0, 1) := by decide +kernel
theorem dX5_init_41 : decode cX5_init 41 = .ok (.putfield 28, 3) := by decide +kernel
theorem dX5_init_44 : decode cX5_init 44 = .ok (.aload_n 0, 1) := by decide +kernel
theorem dX5_init_45 : decode cX5_init 45 = .ok (.lconst 0, 1) := by decide +kernel
theorem dX5_init_46 : decode cX5_init 46 = .ok (.putfield 32, 3) := by decide +kernel
theorem dX5_init_49 : decode cX5_init 49 = .ok (.aload_n 0, 1) := by decide +kernel
theorem dX5_init_50 : decode cX5_init 50 = .ok (.lconst 0, 1) := by decide +kernel
theorem dX5_init_51 : decode cX5_init 51 = .ok (.putfield 36, 3) := by decide +kernel
theorem dX5_init_54 : decode cX5_init 54 = .ok (.return_, 1) := by decide +kernel
theorem dX5_copyFrom_0 : decode cX5_copyFrom 0 = .ok (.aload_n 1, 1) := by decide +kernel
theorem dX5_copyFrom_1 : decode cX5_copyFrom 1 = .ok (.getfield 9, 3) := by decide +kernel
theorem dX5_copyFrom_4 : decode cX5_copyFrom 4 = .ok (.iconst 0, 1) := by decide +kernel
theorem dX5_copyFrom_5 : decode cX5_copyFrom 5 = .ok (.aload_n 0, 1) := by decide +kernel
theorem dX5_copyFrom_6 : decode cX5_copyFrom 6 = .ok (.getfield 9, 3) := by decide +kernel
theorem dX5_copyFrom_9 : decode cX5_copyFrom 9 = .ok (.iconst 0, 1) := by decide +kernel
theorem dX5_copyFrom_10 : decode cX5_copyFrom 10 = .ok (.bipush 8, 2) := by decide +kernel
theorem dX5_copyFrom_12 : decode cX5_copyFrom 12 = .ok (.invokestatic 39, 3) := by decide +kernel
theorem dX5_copyFrom_15 : decode cX5_copyFrom 15 = .ok (.aload_n 1, 1) := by decide +kernel
theorem dX5_copyFrom_16 : decode cX5_copyFrom 16 = .ok (.getfield 15, 3) := by decide +kernel
theorem dX5_copyFrom_19 : decode cX5_copyFrom 19 = .ok (.iconst 0, 1) := by decide +kernel
theorem dX5_copyFrom_20 : decode cX5_copyFrom 20 = .ok (.aload_n 0, 1) := by decide +kernel
theorem dX5_copyFrom_21 : decode cX5_copyFrom 21 = .ok (.getfield 15, 3) := by decide +kernel
theorem dX5_copyFrom_24 : decode cX5_copyFrom 24 = .ok (.iconst 0, 1) := by decide +kernel
theorem dX5_copyFrom_25 : decode cX5_copyFrom 25 = .ok (.bipush 8, 2) := by decide +kernel
theorem dX5_copyFrom_27 : decode cX5_copyFrom 27 = .ok (.invokestatic 39, 3) := by decide +kernel
theorem dX5_copyFrom_30 : decode cX5_copyFrom 30 = .ok (.aload_n 1, 1) := by decide +kernel
theorem dX5_copyFrom_31 : decode cX5_copyFrom 31 = .ok (.getfield 18, 3) := by decide +kernel
theorem dX5_copyFrom_34 : decode cX5_copyFrom 34 = .ok (.iconst 0, 1) := by decide +kernel
theorem dX5_copyFrom_35 : decode cX5_copyFrom 35 = .ok (.aload_n 0, 1) := by decide +kernel
theorem dX5_copyFrom_36 : decode cX5_copyFrom 36 = .ok (.getfield 18, 3) := by decide +kernel
theorem dX5_copyFrom_39 : decode cX5_copyFrom 39 = .ok (.iconst 0, 1) := by decide +kernel
theorem dX5_copyFrom_40 : decode cX5_copyFrom 40 = .ok (.bipush 8, 2) := by decide +kernel
theorem dX5_copyFrom_42 : decode cX5_copyFrom 42 = .ok (.invokestatic 39, 3) := by decide +kernel
theorem dX5_copyFrom_45 : decode cX5_copyFrom 45 = .ok (.aload_n 0, 1) := by decide +kernel
theorem dX5_copyFrom_46 : decode cX5_copyFrom 46 = .ok (.getfield 24, 3) := by decide +kernel
theorem dX5_copyFrom_49 : decode cX5_copyFrom 49 = .ok (.aload_n 1, 1) := by decide +kernel
theorem dX5_copyFrom_50 : decode cX5_copyFrom 50 = .ok (.getfield 24, 3) := by decide +kernel
theorem dX5_copyFrom_53 : decode cX5_copyFrom 53 = .ok (.invokevirtual 45, 3) := by decide +kernel
theorem dX5_copyFrom_56 : decode cX5_copyFrom 56 = .ok (.aload_n 0, 1) := by decide +kernel
theorem dX5_copyFrom_57 : decode cX5_copyFrom 57 = .ok (.aload_n 1, 1) := by decide +kernel
theorem dX5_copyFrom_58 : decode cX5_copyFrom 58 = .ok (.getfield 28, 3) := by decide +kernel
theorem dX5_copyFrom_61 : decode cX5_copyFrom 61 = .ok (.putfield 28, 3) := by decide +kernel
theorem dX5_copyFrom_64 : decode cX5_copyFrom 64 = .ok (.aload_n 0, 1) := by decide +kernel
theorem dX5_copyFrom_65 : decode cX5_copyFrom 65 = .ok (.aload_n 1, 1) := by decide +kernel
theorem dX5_copyFrom_66 : decode cX5_copyFrom 66 = .ok (.getfield 32, 3) := by decide +kernel
theorem dX5_copyFrom_69 : decode cX5_copyFrom 69 = .ok (.putfield 32, 3) := by decide +kernel
theorem dX5_copyFrom_72 : decode cX5_copyFrom 72 = .ok (.aload_n 0, 1) := by decide +kernel
theorem dX5_copyFrom_73 : decode cX5_copyFrom 73 = .ok (.aload_n 1, 1) := by decide +kernel
theorem dX5_copyFrom_74 : decode cX5_copyFrom 74 = .ok (.getfield 36, 3) := by decide +kernel
theorem dX5_copyFrom_77 : decode cX5_copyFrom 77 = .ok (.putfield 36, 3) := by decide +kernel
theorem dX5_copyFrom_80 : decode cX5_copyFrom 80 = .ok (.return_, 1) := by decide +kernel
theorem dX5_countsOf_0 : decode cX5_countsOf 0 = .ok (.iload_n 1, 1) := by decide +kernel
theorem dX5_countsOf_1 : decode cX5_countsOf 1 = .ok (.ifCond .ne 10, 3) := by decide +kernel
theorem dX5_countsOf_4 : decode cX5_countsOf 4 = .ok (.aload_n 0, 1) := by decide +kernel
theorem dX5_countsOf_5 : decode cX5_countsOf 5 = .ok (.getfield 9, 3) := by decide +kernel
theorem dX5_countsOf_8 : decode cX5_countsOf 8 = .ok (.goto 7, 3) := by decide +kernel
theorem dX5_countsOf_11 : decode cX5_countsOf 11 = .ok (.aload_n 0, 1) := by decide +kernel
theorem dX5_countsOf_12 : decode cX5_countsOf 12 = .ok (.getfield 15, 3) := by decide +kernel
theorem dX5_countsOf_15 : decode cX5_countsOf 15 = .ok (.areturn, 1) := by decide +kernel
theorem dX5_close_0 : decode cX5_close 0 = .ok (.iconst 0, 1) := by decide +kernel
theorem dX5_close_1 : decode cX5_close 1 = .ok (.istore 4, 2) := by decide +kernel
theorem dX5_close_3 : decode cX5_close 3 = .ok (.iload 4, 2) := by decide +kernel
theorem dX5_close_5 : decode cX5_close 5 = .ok (.bipush 8, 2) := by decide +kernel
theorem dX5_close_7 : decode cX5_close 7 = .ok (.if_icmp .ge 34, 3) := by decide +kernel
theorem dX5_close_10 : decode cX5_close 10 = .ok (.aload_n 0, 1) := by decide +kernel
theorem dX5_close_11 : decode cX5_close 11 = .ok (.getfield 15, 3) := by decide +kernel
theorem dX5_close_14 : decode cX5_close 14 = .ok (.iload 4, 2) := by decide +kernel
theorem dX5_close_16 : decode cX5_close 16 = .ok (.dup2, 1) := by decide +kernel
theorem dX5_close_17 : decode cX5_close 17 = .ok (.iaload, 1) := by decide +kernel
theorem dX5_close_18 : decode cX5_close 18 = .ok (.aload_n 3, 1) := by decide +kernel
theorem dX5_close_19 : decode cX5_close 19 = .ok (.iload 4, 2) := by decide +kernel
theorem dX5_close_21 : decode cX5_close 21 = .ok (.iaload, 1) := by decide +kernel
theorem dX5_close_22 : decode cX5_close 22 = .ok (.isub, 1) := by decide +kernel
theorem dX5_close_23 : decode cX5_close 23 = .ok (.iastore, 1) := by decide +kernel
theorem dX5_close_24 : decode cX5_close 24 = .ok (.aload_n 0, 1) := by decide +kernel
theorem dX5_close_25 : decode cX5_close 25 = .ok (.getfield 18, 3) := by decide +kernel
theorem dX5_close_28 : decode cX5_close 28 = .ok (.iload 4, 2) := by decide +kernel
theorem dX5_close_30 : decode cX5_close 30 = .ok (.aload_n 3, 1) := by decide +kernel
theorem dX5_close_31 : decode cX5_close 31 = .ok (.iload 4, 2) := by decide +kernel
theorem dX5_close_33 : decode cX5_close 33 = .ok (.iaload, 1) := by decide +kernel
theorem dX5_close_34 : decode cX5_close 34 = .ok (.iastore, 1) := by decide +kernel
theorem dX5_close_35 : decode cX5_close 35 = .ok (.iinc 4 1, 3) := by decide +kernel
theorem dX5_close_38 : decode cX5_close 38 = .ok (.goto (-35), 3) := by decide +kernel
theorem dX5_close_41 : decode cX5_close 41 = .ok (.aload_n 0, 1) := by decide +kernel
theorem dX5_close_42 : decode cX5_close 42 = .ok (.dup, 1) := by decide +kernel
theorem dX5_close_43 : decode cX5_close 43 = .ok (.getfield 28, 3) := by decide +kernel
theorem dX5_close_46 : decode cX5_close 46 = .ok (.iconst 1, 1) := by decide +kernel
theorem dX5_close_47 : decode cX5_close 47 = .ok (.iadd, 1) := by decide +kernel
theorem dX5_close_48 : decode cX5_close 48 = .ok (.putfield 28, 3) := by decide +kernel
theorem dX5_close_51 : decode cX5_close 51 = .ok (.aload_n 0, 1) := by decide +kernel
theorem dX5_close_52 : decode cX5_close 52 = .ok (.dup, 1) := by decide +kernel
theorem dX5_close_53 : decode cX5_close 53 = .ok (.getfield 32, 3) := by decide +kernel
theorem dX5_close_56 : decode cX5_close 56 = .ok (.iload_n 2, 1) := by decide +kernel
theorem dX5_close_57 : decode cX5_close 57 = .ok (.i2l, 1) := by decide +kernel
theorem dX5_close_58 : decode cX5_close 58 = .ok (.ladd, 1) := by decide +kernel
theorem dX5_close_59 : decode cX5_close 59 = .ok (.putfield 32, 3) := by decide +kernel
theorem dX5_close_62 : decode cX5_close 62 = .ok (.aload_n 0, 1) := by decide +kernel
theorem dX5_close_63 : decode cX5_close 63 = .ok (.dup, 1) := by decide +kernel
theorem dX5_close_64 : decode cX5_close 64 = .ok (.getfield 36, 3) := by decide +kernel
theorem dX5_close_67 : decode cX5_close 67 = .ok (.iload_n 1, 1) := by decide +kernel
theorem dX5_close_68 : decode cX5_close 68 = .ok (.i2l, 1) := by decide +kernel
theorem dX5_close_69 : decode cX5_close 69 = .ok (.ladd, 1) := by decide +kernel
theorem dX5_close_70 : decode cX5_close 70 = .ok (.putfield 36, 3) := by decide +kernel
theorem dX5_close_73 : decode cX5_close 73 = .ok (.return_, 1) := by decide +kernel
theorem dJ6_bitCount_0f7a4_0 : decode cJ6_bitCount_0f7a4 0 = .ok (.iload_n 0, 1) := by decide +kernel
theorem dJ6_bitCount_0f7a4_1 : decode cJ6_bitCount_0f7a4 1 = .ok (.iload_n 0, 1) := by decide +kernel
theorem dJ6_bitCount_0f7a4_2 : decode cJ6_bitCount_0f7a4 2 = .ok (.iconst 1, 1) := by decide +kernel
theorem dJ6_bitCount_0f7a4_3 : decode cJ6_bitCount_0f7a4 3 = .ok (.iushr, 1) := by decide +kernel
theorem dJ6_bitCount_0f7a4_4 : decode cJ6_bitCount_0f7a4 4 = .ok (.ldc_w 265, 3) := by decide +kernel
theorem dJ6_bitCount_0f7a4_7 : decode cJ6_bitCount_0f7a4 7 = .ok (.iand, 1) := by decide +kernel
theorem dJ6_bitCount_0f7a4_8 : decode cJ6_bitCount_0f7a4 8 = .ok (.isub, 1) := by decide +kernel
theorem dJ6_bitCount_0f7a4_9 : decode cJ6_bitCount_0f7a4 9 = .ok (.istore_n 0, 1) := by decide +kernel
theorem dJ6_bitCount_0f7a4_10 : decode cJ6_bitCount_0f7a4 10 = .ok (.iload_n 0, 1) := by decide +kernel
theorem dJ6_bitCount_0f7a4_11 : decode cJ6_bitCount_0f7a4 11 = .ok (.ldc_w 266, 3) := by decide +kernel
theorem dJ6_bitCount_0f7a4_14 : decode cJ6_bitCount_0f7a4 14 = .ok (.iand, 1) := by decide +kernel
theorem dJ6_bitCount_0f7a4_15 : decode cJ6_bitCount_0f7a4 15 = .ok (.iload_n 0, 1) := by decide +kernel
theorem dJ6_bitCount_0f7a4_16 : decode cJ6_bitCount_0f7a4 16 = .ok (.iconst 2, 1) := by decide +kernel
theorem dJ6_bitCount_0f7a4_17 : decode cJ6_bitCount_0f7a4 17 = .ok (.iushr, 1) := by decide +kernel
theorem dJ6_bitCount_0f7a4_18 : decode cJ6_bitCount_0f7a4 18 = .ok (.ldc_w 266, 3) := by decide +kernel
theorem dJ6_bitCount_0f7a4_21 : decode cJ6_bitCount_0f7a4 21 = .ok (.iand, 1) := by decide +kernel
theorem dJ6_bitCount_0f7a4_22 : decode cJ6_bitCount_0f7a4 22 = .ok (.iadd, 1) := by decide +kernel
theorem dJ6_bitCount_0f7a4_23 : decode cJ6_bitCount_0f7a4 23 = .ok (.istore_n 0, 1) := by decide +kernel
theorem dJ6_bitCount_0f7a4_24 : decode cJ6_bitCount_0f7a4 24 = .ok (.iload_n 0, 1) := by decide +kernel
theorem dJ6_bitCount_0f7a4_25 : decode cJ6_bitCount_0f7a4 25 = .ok (.iload_n 0, 1) := by decide +kernel
theorem dJ6_bitCount_0f7a4_26 : decode cJ6_bitCount_0f7a4 26 = .ok (.iconst 4, 1) := by decide +kernel
theorem dJ6_bitCount_0f7a4_27 : decode cJ6_bitCount_0f7a4 27 = .ok (.iushr, 1) := by decide +kernel
theorem dJ6_bitCount_0f7a4_28 : decode cJ6_bitCount_0f7a4 28 = .ok (.iadd, 1) := by decide +kernel
theorem dJ6_bitCount_0f7a4_29 : decode cJ6_bitCount_0f7a4 29 = .ok (.ldc_w 267, 3) := by decide +kernel
theorem dJ6_bitCount_0f7a4_32 : decode cJ6_bitCount_0f7a4 32 = .ok (.iand, 1) := by decide +kernel
theorem dJ6_bitCount_0f7a4_33 : decode cJ6_bitCount_0f7a4 33 = .ok (.istore_n 0, 1) := by decide +kernel
theorem dJ6_bitCount_0f7a4_34 : decode cJ6_bitCount_0f7a4 34 = .ok (.iload_n 0, 1) := by decide +kernel
theorem dJ6_bitCount_0f7a4_35 : decode cJ6_bitCount_0f7a4 35 = .ok (.iload_n 0, 1) := by decide +kernel
theorem dJ6_bitCount_0f7a4_36 : decode cJ6_bitCount_0f7a4 36 = .ok (.bipush 8, 2) := by decide +kernel
theorem dJ6_bitCount_0f7a4_38 : decode cJ6_bitCount_0f7a4 38 = .ok (.iushr, 1) := by decide +kernel
theorem dJ6_bitCount_0f7a4_39 : decode cJ6_bitCount_0f7a4 39 = .ok (.iadd, 1) := by decide +kernel
theorem dJ6_bitCount_0f7a4_40 : decode cJ6_bitCount_0f7a4 40 = .ok (.istore_n 0, 1) := by decide +kernel
theorem dJ6_bitCount_0f7a4_41 : decode cJ6_bitCount_0f7a4 41 = .ok (.iload_n 0, 1) := by decide +kernel
theorem dJ6_bitCount_0f7a4_42 : decode cJ6_bitCount_0f7a4 42 = .ok (.iload_n 0, 1) := by decide +kernel
theorem dJ6_bitCount_0f7a4_43 : decode cJ6_bitCount_0f7a4 43 = .ok (.bipush 16, 2) := by decide +kernel
theorem dJ6_bitCount_0f7a4_45 : decode cJ6_bitCount_0f7a4 45 = .ok (.iushr, 1) := by decide +kernel
theorem dJ6_bitCount_0f7a4_46 : decode cJ6_bitCount_0f7a4 46 = .ok (.iadd, 1) := by decide +kernel
theorem dJ6_bitCount_0f7a4_47 : decode cJ6_bitCount_0f7a4 47 = .ok (.istore_n 0, 1) := by decide +kernel
theorem dJ6_bitCount_0f7a4_48 : decode cJ6_bitCount_0f7a4 48 = .ok (.iload_n 0, 1) := by decide +kernel
theorem dJ6_bitCount_0f7a4_49 : decode cJ6_bitCount_0f7a4 49 = .ok (.bipush 63, 2) := by decide +kernel
theorem dJ6_bitCount_0f7a4_51 : decode cJ6_bitCount_0f7a4 51 = .ok (.iand, 1) := by decide +kernel
theorem dJ6_bitCount_0f7a4_52 : decode cJ6_bitCount_0f7a4 52 = .ok (.ireturn, 1) := by decide +kernel
theorem dJ9_abs_067f4_0 : decode cJ9_abs_067f4 0 = .ok (.lload_n 0, 1) := by decide +kernel
theorem dJ9_abs_067f4_1 : decode cJ9_abs_067f4 1 = .ok (.lconst 0, 1) := by decide +kernel
theorem dJ9_abs_067f4_2 : decode cJ9_abs_067f4 2 = .ok (.lcmp, 1) := by decide +kernel
theorem dJ9_abs_067f4_3 : decode cJ9_abs_067f4 3 = .ok (.ifCond .ge 8, 3) := by decide +kernel
theorem dJ9_abs_067f4_6 : decode cJ9_abs_067f4 6 = .ok (.lload_n 0, 1) := by decide +kernel
theorem dJ9_abs_067f4_7 : decode cJ9_abs_067f4 7 = .ok (.lneg, 1) := by decide +kernel
theorem dJ9_abs_067f4_8 : decode cJ9_abs_067f4 8 = .ok (.goto 4, 3) := by decide +kernel
theorem dJ9_abs_067f4_11 : decode cJ9_abs_067f4 11 = .ok (.lload_n 0, 1) := by decide +kernel
theorem dJ9_abs_067f4_12 : decode cJ9_abs_067f4 12 = .ok (.lreturn, 1) := by decide +kernel
theorem dJ9_max_7cf53_0 : decode cJ9_max_7cf53 0 = .ok (.iload_n 0, 1) := by decide +kernel
theorem dJ9_max_7cf53_1 : decode cJ9_max_7cf53 1 = .ok (.iload_n 1, 1) := by decide +kernel
theorem dJ9_max_7cf53_2 : decode cJ9_max_7cf53 2 = .ok (.if_icmp .lt 7, 3) := by decide +kernel
theorem dJ9_max_7cf53_5 : decode cJ9_max_7cf53 5 = .ok (.iload_n 0, 1) := by decide +kernel
theorem dJ9_max_7cf53_6 : decode cJ9_max_7cf53 6 = .ok (.goto 4, 3) := by decide +kernel
theorem dJ9_max_7cf53_9 : decode cJ9_max_7cf53 9 = .ok (.iload_n 1, 1) := by decide +kernel
theorem dJ9_max_7cf53_10 : decode cJ9_max_7cf53 10 = .ok (.ireturn, 1) := by decide +kernel
theorem dJ9_min_7cf53_0 : decode cJ9_min_7cf53 0 = .ok (.iload_n 0, 1) := by decide +kernel
theorem dJ9_min_7cf53_1 : decode cJ9_min_7cf53 1 = .ok (.iload_n 1, 1) := by decide +kernel
theorem dJ9_min_7cf53_2 : decode cJ9_min_7cf53 2 = .ok (.if_icmp .gt 7, 3) := by decide +kernel
theorem dJ9_min_7cf53_5 : decode cJ9_min_7cf53 5 = .ok (.iload_n 0, 1) := by decide +kernel
theorem dJ9_min_7cf53_6 : decode cJ9_min_7cf53 6 = .ok (.goto 4, 3) := by decide +kernel
theorem dJ9_min_7cf53_9 : decode cJ9_min_7cf53 9 = .ok (.iload_n 1, 1) := by decide +kernel
theorem dJ9_min_7cf53_10 : decode cJ9_min_7cf53 10 = .ok (.ireturn, 1) := by decide +kernel
theorem dJ7_fill_53178_0 : decode cJ7_fill_53178 0 = .ok (.iconst 0, 1) := by decide +kernel
theorem dJ7_fill_53178_1 : decode cJ7_fill_53178 1 = .ok (.istore_n 2, 1) := by decide +kernel
theorem dJ7_fill_53178_2 : decode cJ7_fill_53178 2 = .ok (.aload_n 0, 1) := by decide +kernel
theorem dJ7_fill_53178_3 : decode cJ7_fill_53178 3 = .ok (.arraylength, 1) := by decide +kernel
theorem dJ7_fill_53178_4 : decode cJ7_fill_53178 4 = .ok (.istore_n 3, 1) := by decide +kernel
theorem dJ7_fill_53178_5 : decode cJ7_fill_53178 5 = .ok (.iload_n 2, 1) := by decide +kernel
theorem dJ7_fill_53178_6 : decode cJ7_fill_53178 6 = .ok (.iload_n 3, 1) := by decide +kernel
theorem dJ7_fill_53178_7 : decode cJ7_fill_53178 7 = .ok (.if_icmp .ge 13, 3) := by decide +kernel
theorem dJ7_fill_53178_10 : decode cJ7_fill_53178 10 = .ok (.aload_n 0, 1) := by decide +kernel
theorem dJ7_fill_53178_11 : decode cJ7_fill_53178 11 = .ok (.iload_n 2, 1) := by decide +kernel
theorem dJ7_fill_53178_12 : decode cJ7_fill_53178 12 = .ok (.iload_n 1, 1) := by decide +kernel
theorem dJ7_fill_53178_13 : decode cJ7_fill_53178 13 = .ok (.iastore, 1) := by decide +kernel
theorem dJ7_fill_53178_14 : decode cJ7_fill_53178 14 = .ok (.iinc 2 1, 3) := by decide +kernel
theorem dJ7_fill_53178_17 : decode cJ7_fill_53178 17 = .ok (.goto (-12), 3) := by decide +kernel
theorem dJ7_fill_53178_20 : decode cJ7_fill_53178 20 = .ok (.return_, 1) := by decide +kernel
end
section
/-! ===== numbers: ints as iI z, longs as jI z, z an Int ===== -/
def iI (z : Int) : Int32 := Int32.ofInt z
def jI (z : Int) : Int64 := Int64.ofInt z
theorem iI_add (a b : Int) : iI a + iI b = iI (a + b) := (Int32.ofInt_add a b).symm
theorem iI_sub (a b : Int) : iI a - iI b = iI (a - b) := (Int32.ofInt_sub a b).symm
theorem iI_mul (a b : Int) : iI a * iI b = iI (a * b) := (Int32.ofInt_mul a b).symm
theorem iI_neg (a : Int) : - iI a = iI (-a) := (Int32.ofInt_neg a).symm
theorem jI_add (a b : Int) : jI a + jI b = jI (a + b) := (Int64.ofInt_add a b).symm
theorem jI_sub (a b : Int) : jI a - jI b = jI (a - b) := (Int64.ofInt_sub a b).symm
theorem jI_mul (a b : Int) : jI a * jI b = jI (a * b) := (Int64.ofInt_mul a b).symm
theorem jI_neg (a : Int) : - jI a = jI (-a) := (Int64.ofInt_neg a).symm
theorem iI_T {z : Int} (h : -2147483648 ≤ z ∧ z < 2147483648) : (iI z).toInt = z := Int32.toInt_ofInt_of_le (by omega) (by omega)
theorem jI_T {z : Int} (h : -9223372036854775808 ≤ z ∧ z < 9223372036854775808) : (jI z).toInt = z := Int64.toInt_ofInt_of_le (by omega) (by omega)
theorem iI_of (x : Int32) : iI x.toInt = x := Int32.ofInt_toInt x
theorem iI_rng (x : Int32) : -2147483648 ≤ x.toInt ∧ x.toInt < 2147483648 := ⟨x.le_toInt, x.toInt_lt⟩
theorem iI_le {a b : Int} (ha : -2147483648 ≤ a ∧ a < 2147483648) (hb : -2147483648 ≤ b ∧ b < 2147483648) : iI a ≤ iI b ↔ a ≤ b := by rw [Int32.le_iff_toInt_le, iI_T ha, iI_T hb]
theorem iI_lt {a b : Int} (ha : -2147483648 ≤ a ∧ a < 2147483648) (hb : -2147483648 ≤ b ∧ b < 2147483648) : iI a < iI b ↔ a < b := by rw [Int32.lt_iff_toInt_lt, iI_T ha, iI_T hb]
theorem iI_eq {a b : Int} (ha : -2147483648 ≤ a ∧ a < 2147483648) (hb : -2147483648 ≤ b ∧ b < 2147483648) : iI a = iI b ↔ a = b := by rw [← Int32.toInt_inj, iI_T ha, iI_T hb]
theorem jI_lt {a b : Int} (ha : -9223372036854775808 ≤ a ∧ a < 9223372036854775808) (hb : -9223372036854775808 ≤ b ∧ b < 9223372036854775808) : jI a < jI b ↔ a < b := by rw [Int64.lt_iff_toInt_lt, jI_T ha, jI_T hb]
theorem jI_eq {a b : Int} (ha : -9223372036854775808 ≤ a ∧ a < 9223372036854775808) (hb : -9223372036854775808 ≤ b ∧ b < 9223372036854775808) : jI a = jI b ↔ a = b := by rw [← Int64.toInt_inj, jI_T ha, jI_T hb]
theorem iI_cl {k : Nat} (h : k < 2147483648) : (iI (k : Int)).toNatClampNeg = k := by
  unfold iI
  rw [Int32.toNatClampNeg_ofInt_of_le (by omega) (by omega)]
  exact Int.toNat_natCast k
theorem iI_in {z : Int} {k n : Nat} (hz : z = (k : Int)) (hk : k < n) (hn : n < 2147483648) : vp_in (iI z) n := by
  rw [vp_in_iff, iI_T (by omega)]
  omega
theorem iI_j {z : Int} (h : -2147483648 ≤ z ∧ z < 2147483648) : (iI z).toInt64 = jI z := by
  rw [← Int64.toInt_inj, Int32.toInt_toInt64, iI_T h, jI_T (by omega)]
theorem jI_i (z : Int) : (jI z).toInt32 = iI z := Int64.toInt32_ofInt
theorem iI_ne0 {b : Int} (h : 0 < b ∧ b < 2147483648) : ¬ iI b = 0 := fun q => by
  have := congrArg Int32.toInt q
  rw [iI_T (by omega)] at this
  have h0 : (0 : Int32).toInt = 0 := rfl
  omega
theorem iI_div {a b : Int} (ha : -2147483648 ≤ a ∧ a < 2147483648) (hb : 0 < b ∧ b < 2147483648) : iI a / iI b = iI (a.tdiv b) := by
  have hq : -2147483648 ≤ a.tdiv b ∧ a.tdiv b < 2147483648 := by
    rcases Int.le_total 0 a with h | h
    · rw [Int.tdiv_eq_ediv_of_nonneg h]
      have h1 : 0 ≤ a / b := Int.ediv_nonneg h (by omega)
      have h2 : a / b ≤ a := Int.ediv_le_self b h
      omega
    · have e : a.tdiv b = -((-a) / b) := by
        rw [← Int.neg_neg a, Int.neg_tdiv, Int.tdiv_eq_ediv_of_nonneg (by omega), Int.neg_neg]
      have h1 : 0 ≤ (-a) / b := Int.ediv_nonneg (by omega) (by omega)
      have h2 : (-a) / b ≤ -a := Int.ediv_le_self b (by omega)
      omega
  rw [← Int32.toInt_inj, Int32.toInt_div_of_ne_right _ _ (fun q => by
    have := congrArg Int32.toInt q
    rw [iI_T (by omega)] at this
    have h0 : (-1 : Int32).toInt = -1 := rfl
    omega), iI_T ha, iI_T (by omega), iI_T hq]
theorem iI_divN {a b : Int} (ha : 0 ≤ a ∧ a < 2147483648) (hb : 0 < b ∧ b < 2147483648) : iI a / iI b = iI (a / b) := by
  rw [iI_div (by omega) hb, Int.tdiv_eq_ediv_of_nonneg ha.1]
theorem iI_remN {a b : Int} (ha : 0 ≤ a ∧ a < 2147483648) (hb : 0 < b ∧ b < 2147483648) : iI a - iI a / iI b * iI b = iI (a % b) := by
  rw [iI_divN ha hb, iI_mul, iI_sub, Int.emod_def, Int.mul_comm]
def bI (c : Prop) [Decidable c] : Int := if c then 1 else 0
theorem bI_t {c : Prop} [Decidable c] (h : c) : bI c = 1 := if_pos h
theorem bI_f {c : Prop} [Decidable c] (h : ¬ c) : bI c = 0 := if_neg h
theorem bI_rng (c : Prop) [Decidable c] : 0 ≤ bI c ∧ bI c ≤ 1 := by
  unfold bI
  split <;> decide
theorem bI_nar (c : Prop) [Decidable c] : narrow .boolean (.int (iI (bI c))) = .int (iI (bI c)) := by
  unfold bI
  split <;> rfl
theorem bI_c {c d : Prop} [Decidable c] [Decidable d] (h : c ↔ d) : bI c = bI d := by
  unfold bI
  by_cases hc : c
  · rw [if_pos hc, if_pos (h.mp hc)]
  · rw [if_neg hc, if_neg (fun q => hc (h.mpr q))]

/-! ===== the world: cells 0 .. N - 1, at the addresses ad, holding w ===== -/
abbrev nG : Type := va_G × (Nat → ClassId)
def nL (N : Nat) (ad : Nat → Nat) (w : Nat → va_E) : va_W := (List.range N).map (fun i => (ad i, w i))
theorem nL_at (N : Nat) (ad : Nat → Nat) (w : Nat → va_E) (k : Nat) : (nL N ad w)[k]? = if k < N then some (ad k, w k) else none := by
  unfold nL
  rw [List.getElem?_map]
  split
  · rename_i h
    rw [List.getElem?_range h]
    rfl
  · rename_i h
    rw [List.getElem?_eq_none (by rw [List.length_range]; omega)]
    rfl
theorem nL_len (N : Nat) (ad : Nat → Nat) (w : Nat → va_E) : (nL N ad w).length = N := by simp [nL]
theorem nL_get {N : Nat} {ad : Nat → Nat} {w : Nat → va_E} {i : Nat} {e : va_E} (hi : i < N) (he : w i = e) : (nL N ad w)[i]? = some (ad i, e) := by
  rw [nL_at, if_pos hi, he]
theorem nL_set (N : Nat) (ad : Nat → Nat) (w : Nat → va_E) (i : Nat) (e : va_E) : (nL N ad w).set i (ad i, e) = nL N ad (va_up w i e) := by
  apply List.ext_getElem?
  intro k
  rw [List.getElem?_set, nL_len, nL_at, nL_at]
  by_cases h : i = k
  · subst h
    rw [if_pos rfl, va_up_self]
  · rw [if_neg h, va_up_ne _ _ (fun q => h q.symm)]
def nJ (A : Nat → Prop) (N : Nat) (ad : Nat → Nat) : Prop := (∀ i j, i < N → j < N → ad i = ad j → i = j) ∧ ∀ i, i < N → A (ad i)
theorem nJ.D {A : Nat → Prop} {N : Nat} {ad : Nat → Nat} (h : nJ A N ad) (w : Nat → va_E) : va_D A (nL N ad w) := by
  refine ⟨fun i j p q hi hj e => ?_, fun k q hk => ?_⟩
  · rw [nL_at] at hi hj
    by_cases h1 : i < N
    · by_cases h2 : j < N
      · rw [if_pos h1] at hi
        rw [if_pos h2] at hj
        cases hi
        cases hj
        exact h.1 i j h1 h2 e
      · rw [if_neg h2] at hj
        cases hj
    · rw [if_neg h1] at hi
      cases hi
  · rw [nL_at] at hk
    by_cases h1 : k < N
    · rw [if_pos h1] at hk
      cases hk
      exact h.2 k h1
    · rw [if_neg h1] at hk
      cases hk
def nA (N : Nat) (ad : Nat → Nat) (sz : Nat) : Nat → Prop := fun q => (∃ i, i < N ∧ ad i = q) ∨ sz ≤ q
def nInj (N : Nat) (ad : Nat → Nat) : Prop := ∀ i j, i < N → j < N → ad i = ad j → i = j
theorem nInj.J {N : Nat} {ad : Nat → Nat} (h : nInj N ad) (sz : Nat) : nJ (nA N ad sz) N ad := ⟨h, fun i hi => Or.inl ⟨i, hi, rfl⟩⟩
theorem nA.up {N sz sz' : Nat} {ad : Nat → Nat} (h : sz ≤ sz') : ∀ q, nA N ad sz' q → nA N ad sz q := fun q hq => hq.elim Or.inl (fun z => Or.inr (Nat.le_trans h z))
/-- the arrays' classes: int, long, boolean, of Tills, of Lands, of int arrays -/
def nTy (cs : Nat → ClassId) : List (ClassId × FieldType) := [(cs 0, .int), (cs 1, .long), (cs 2, .boolean), (cs 3, .object "NewCoins$Till"), (cs 4, .object "NewCoins$Land"), (cs 5, .array .int)]
def nNs : List Cond := [.methodLinkNest RX4 23 yX3_init RX6, .methodLinkNest RX4 51 yX5_init RX6, .methodLinkNest RX5 23 yX2_init RX6, .methodLinkNest RX6 26 yX0_init RX6, .methodLinkNest RX1 37 yX6_within RX6, .methodLinkNest RX3 28 yX6_within RX6, .methodLinkNest RX4 99 yX6_wholeTimes RX6, .methodLinkNest RX1 52 yX6_isSum RX6, .methodLinkNest RX1 55 yX6_wholeTimes RX6, .methodLinkNest RX4 68 yX6_within RX6, .methodLinkNest RX0 26 yX6_isSum RX6, .methodLinkNest RX0 60 yX6_wholeTimes RX6]
theorem nNs_is : ∀ w ∈ nNs, ∃ (a : String) (i : Nat) (x : MethodName) (h : String), w = .methodLinkNest a i x h := by
  intro w hw
  simp only [nNs, List.mem_cons, List.not_mem_nil, or_false] at hw
  rcases hw with rfl | rfl | rfl | rfl | rfl | rfl | rfl | rfl | rfl | rfl | rfl | rfl <;> exact ⟨_, _, _, _, rfl⟩
def nK (G : nG) (U : State) : Prop := va_K G.1 vwCl (nTy G.2) U ∧ ∀ w ∈ nNs, va_Nw w U
theorem nK.warm {G : nG} {s U : State} (hW : s.WarmedH U.vm) (h : nK G s) : nK G U := ⟨va_K.moved hW.alike h.1, fun w hw => by
  obtain ⟨a, i, x, q, rfl⟩ := nNs_is w hw
  exact va_Nw.warmM hW (h.2 _ hw)⟩
theorem nK.call {G : nG} {U : State} {g : JFrame} {mk : MethodId} {a : Array Value} (h : nK G U) : nK G (U.calling g mk a) := ⟨va_K.moved (u := U) (U := U.calling g mk a) (Vm.Alike.refl U.vm) h.1, fun w hw => by
  obtain ⟨a', i, x, q, rfl⟩ := nNs_is w hw
  exact va_Nw.same rfl rfl (h.2 _ hw)⟩
def nB (G : nG) (N : Nat) (ad : Nat → Nat) (w : Nat → va_E) (sz : Nat) (U : State) : Prop := U.heap.size = sz ∧ va_P G.1 vwCl (nL N ad w) U.heap ∧ nK G U ∧ nInj N ad
theorem nB.blind {G : nG} {N : Nat} {ad : Nat → Nat} {w : Nat → va_E} {sz : Nat} {av : List Value} : FrameBlind (va_Pc av (nB G N ad w sz)) := fun _ _ _ _ q => ⟨q.1, q.2.1, q.2.2.1, q.2.2.2.1.call, q.2.2.2.2⟩
theorem nB.pre {G : nG} {N : Nat} {ad : Nat → Nat} {w : Nat → va_E} {s : State} {H : Heap} {As : List Value} (hK : nK G s) (hI : nInj N ad) (hP : va_P G.1 vwCl (nL N ad w) H) : PreS s H (va_Pc As (nB G N ad w H.size)) As := ⟨nB.blind, fun U hU hW => ⟨rfl, by rw [hU], by rw [hU]; exact hP, hK.warm hW, hI⟩⟩
theorem nB.preV {G : nG} {N : Nat} {ad : Nat → Nat} {w : Nat → va_E} {s : State} {H : Heap} {As : List Value} {i ci : Nat} {fs : List Value} {q : vw_C} {C : String} (hK : nK G s) (hI : nInj N ad) (hP : va_P G.1 vwCl (nL N ad w) H) (hi : i < N) (he : w i = .inr (ci, fs)) (hc : vwCl[ci]? = some q) (hC : q.1 = C) : PreV s H C (ad i) (va_Pc (.ref (ad i) :: As) (nB G N ad w H.size)) As := by
  subst hC
  exact ⟨nB.blind, va_recv hK.1 hP hc (nL_get hi he), fun U hU hW => ⟨rfl, by rw [hU], by rw [hU]; exact hP, hK.warm hW, hI⟩⟩
/-! contents -/
abbrev aI (G : nG) (n : Nat) (F : Nat → Int) : va_E := .inl (G.2 0, n, .inl (fun j => iI (F j)))
abbrev aJ (G : nG) (n : Nat) (F : Nat → Int) : va_E := .inl (G.2 1, n, .inr (.inl (fun j => jI (F j))))
abbrev aZ (G : nG) (n : Nat) (F : Nat → Int) : va_E := .inl (G.2 2, n, .inl (fun j => iI (F j)))
abbrev aR (G : nG) (q n : Nat) (f : Nat → Option Nat) : va_E := .inl (G.2 q, n, .inr (.inr (.inr (.inr f))))
/-! ends of contracts: a reader; a writer whose answer is an int, a long, nothing -/
def nRd (v : Value) : Array Value → State → Outcome → State → Prop := fun _ st o t => o = .returned (some v) ∧ t.heap = st.heap
def nPi (G : nG) (N : Nat) (ad : Nat → Nat) (sz : Nat) (post : Int → (Nat → va_E) → Prop) : Array Value → State → Outcome → State → Prop := fun _ st oc t => (∃ (r : Int) (u : Nat → va_E), oc = .returned (some (.int (iI r))) ∧ post r u ∧ va_P G.1 vwCl (nL N ad u) t.heap) ∧ va_F (nA N ad sz) st t
def nPl (G : nG) (N : Nat) (ad : Nat → Nat) (sz : Nat) (post : Int → (Nat → va_E) → Prop) : Array Value → State → Outcome → State → Prop := fun _ st oc t => (∃ (r : Int) (u : Nat → va_E), oc = .returned (some (.long (jI r))) ∧ post r u ∧ va_P G.1 vwCl (nL N ad u) t.heap) ∧ va_F (nA N ad sz) st t
def nPv (G : nG) (N : Nat) (ad : Nat → Nat) (sz : Nat) (post : (Nat → va_E) → Prop) : Array Value → State → Outcome → State → Prop := fun _ st oc t => (∃ (u : Nat → va_E), oc = .returned none ∧ post u ∧ va_P G.1 vwCl (nL N ad u) t.heap) ∧ va_F (nA N ad sz) st t
end
