section
/-- a private method of a class that the tables say can be made, by its rows of tables_1 -/
def lw_okq (q : MethodName × Nat) : Prop := (q.1.cls ≠ "java/lang/invoke/MethodHandle" ∧ q.1.cls ≠ "java/lang/invoke/VarHandle") ∧ Cond.instantiable q.1.cls q.2 ∈ tables_1 ∧ Cond.privateMethod q.1 ∈ tables_1 ∧ Cond.instanceMethod q.1 ∈ tables_1
theorem lw_p0 : lw_okq (⟨"WhoPays$Clearing", "anyFallIn", "(I)Z"⟩, 8) := ⟨⟨by decide +kernel, by decide +kernel⟩, List.mem_of_getElem? (i := 43) (by decide +kernel), List.mem_of_getElem? (i := 180) (by decide +kernel), List.mem_of_getElem? (i := 181) (by decide +kernel)⟩
theorem lw_p1 : lw_okq (⟨"WhoPays$Clearing", "isFallen", "(I)Z"⟩, 8) := ⟨⟨by decide +kernel, by decide +kernel⟩, List.mem_of_getElem? (i := 43) (by decide +kernel), List.mem_of_getElem? (i := 184) (by decide +kernel), List.mem_of_getElem? (i := 185) (by decide +kernel)⟩
theorem lw_p2 : lw_okq (⟨"WhoPays$Clearing", "usableCoins", "(I)I"⟩, 8) := ⟨⟨by decide +kernel, by decide +kernel⟩, List.mem_of_getElem? (i := 43) (by decide +kernel), List.mem_of_getElem? (i := 197) (by decide +kernel), List.mem_of_getElem? (i := 198) (by decide +kernel)⟩
theorem lw_p3 : lw_okq (⟨"WhoPays$Clearing", "solveShares", "()V"⟩, 8) := ⟨⟨by decide +kernel, by decide +kernel⟩, List.mem_of_getElem? (i := 43) (by decide +kernel), List.mem_of_getElem? (i := 211) (by decide +kernel), List.mem_of_getElem? (i := 212) (by decide +kernel)⟩
theorem lw_p4 : lw_okq (⟨"WhoPays$Clearing", "writeEquation", "(I)V"⟩, 8) := ⟨⟨by decide +kernel, by decide +kernel⟩, List.mem_of_getElem? (i := 43) (by decide +kernel), List.mem_of_getElem? (i := 215) (by decide +kernel), List.mem_of_getElem? (i := 216) (by decide +kernel)⟩
theorem lw_p5 : lw_okq (⟨"WhoPays$Clearing", "determinant", "(I)J"⟩, 8) := ⟨⟨by decide +kernel, by decide +kernel⟩, List.mem_of_getElem? (i := 43) (by decide +kernel), List.mem_of_getElem? (i := 219) (by decide +kernel), List.mem_of_getElem? (i := 220) (by decide +kernel)⟩
theorem lw_p6 : lw_okq (⟨"WhoPays$Clearing", "minor", "(IIII)J"⟩, 8) := ⟨⟨by decide +kernel, by decide +kernel⟩, List.mem_of_getElem? (i := 43) (by decide +kernel), List.mem_of_getElem? (i := 223) (by decide +kernel), List.mem_of_getElem? (i := 224) (by decide +kernel)⟩
theorem lw_p7 : lw_okq (⟨"WhoPays$Clearing", "entry", "(III)J"⟩, 8) := ⟨⟨by decide +kernel, by decide +kernel⟩, List.mem_of_getElem? (i := 43) (by decide +kernel), List.mem_of_getElem? (i := 227) (by decide +kernel), List.mem_of_getElem? (i := 228) (by decide +kernel)⟩
theorem lw_p8 : lw_okq (⟨"WhoPays$Books", "shortfall", "(I)I"⟩, 5) := ⟨⟨by decide +kernel, by decide +kernel⟩, List.mem_of_getElem? (i := 16) (by decide +kernel), List.mem_of_getElem? (i := 297) (by decide +kernel), List.mem_of_getElem? (i := 298) (by decide +kernel)⟩
theorem lw_p9 : lw_okq (⟨"WhoPays$Rings", "leastDebt", "(I)I"⟩, 1) := ⟨⟨by decide +kernel, by decide +kernel⟩, List.mem_of_getElem? (i := 77) (by decide +kernel), List.mem_of_getElem? (i := 331) (by decide +kernel), List.mem_of_getElem? (i := 332) (by decide +kernel)⟩
theorem lw_p10 : lw_okq (⟨"WhoPays$Rings", "firstOf", "(I)I"⟩, 1) := ⟨⟨by decide +kernel, by decide +kernel⟩, List.mem_of_getElem? (i := 77) (by decide +kernel), List.mem_of_getElem? (i := 335) (by decide +kernel), List.mem_of_getElem? (i := 336) (by decide +kernel)⟩
theorem lw_p11 : lw_okq (⟨"WhoPays$Books", "payWhole", "(II)I"⟩, 5) := ⟨⟨by decide +kernel, by decide +kernel⟩, List.mem_of_getElem? (i := 16) (by decide +kernel), List.mem_of_getElem? (i := 377) (by decide +kernel), List.mem_of_getElem? (i := 378) (by decide +kernel)⟩
theorem lw_p12 : lw_okq (⟨"WhoPaysModel", "isHouse", "(I)Z"⟩, 18) := ⟨⟨by decide +kernel, by decide +kernel⟩, List.mem_of_getElem? (i := 409) (by decide +kernel), List.mem_of_getElem? (i := 482) (by decide +kernel), List.mem_of_getElem? (i := 483) (by decide +kernel)⟩
theorem lw_p13 : lw_okq (⟨"WhoPaysModel", "owesOf", "(I)I"⟩, 18) := ⟨⟨by decide +kernel, by decide +kernel⟩, List.mem_of_getElem? (i := 409) (by decide +kernel), List.mem_of_getElem? (i := 506) (by decide +kernel), List.mem_of_getElem? (i := 507) (by decide +kernel)⟩
theorem lw_p14 : lw_okq (⟨"WhoPaysModel", "clear", "()V"⟩, 18) := ⟨⟨by decide +kernel, by decide +kernel⟩, List.mem_of_getElem? (i := 409) (by decide +kernel), List.mem_of_getElem? (i := 514) (by decide +kernel), List.mem_of_getElem? (i := 515) (by decide +kernel)⟩
theorem lw_p15 : lw_okq (⟨"WhoPaysModel", "solve", "()V"⟩, 18) := ⟨⟨by decide +kernel, by decide +kernel⟩, List.mem_of_getElem? (i := 409) (by decide +kernel), List.mem_of_getElem? (i := 518) (by decide +kernel), List.mem_of_getElem? (i := 519) (by decide +kernel)⟩
def lw_privs_1 : List (MethodName × Nat) := [(⟨"WhoPays$Clearing", "anyFallIn", "(I)Z"⟩, 8), (⟨"WhoPays$Clearing", "isFallen", "(I)Z"⟩, 8), (⟨"WhoPays$Clearing", "usableCoins", "(I)I"⟩, 8), (⟨"WhoPays$Clearing", "solveShares", "()V"⟩, 8), (⟨"WhoPays$Clearing", "writeEquation", "(I)V"⟩, 8), (⟨"WhoPays$Clearing", "determinant", "(I)J"⟩, 8), (⟨"WhoPays$Clearing", "minor", "(IIII)J"⟩, 8), (⟨"WhoPays$Clearing", "entry", "(III)J"⟩, 8), (⟨"WhoPays$Books", "shortfall", "(I)I"⟩, 5), (⟨"WhoPays$Rings", "leastDebt", "(I)I"⟩, 1), (⟨"WhoPays$Rings", "firstOf", "(I)I"⟩, 1), (⟨"WhoPays$Books", "payWhole", "(II)I"⟩, 5), (⟨"WhoPaysModel", "isHouse", "(I)Z"⟩, 18), (⟨"WhoPaysModel", "owesOf", "(I)I"⟩, 18), (⟨"WhoPaysModel", "clear", "()V"⟩, 18), (⟨"WhoPaysModel", "solve", "()V"⟩, 18)]
theorem lw_r1 : ∀ q ∈ lw_privs_1, lw_okq q := List.forall_mem_cons.mpr ⟨lw_p0, List.forall_mem_cons.mpr ⟨lw_p1, List.forall_mem_cons.mpr ⟨lw_p2, List.forall_mem_cons.mpr ⟨lw_p3, List.forall_mem_cons.mpr ⟨lw_p4, List.forall_mem_cons.mpr ⟨lw_p5, List.forall_mem_cons.mpr ⟨lw_p6, List.forall_mem_cons.mpr ⟨lw_p7, List.forall_mem_cons.mpr ⟨lw_p8, List.forall_mem_cons.mpr ⟨lw_p9, List.forall_mem_cons.mpr ⟨lw_p10, List.forall_mem_cons.mpr ⟨lw_p11, List.forall_mem_cons.mpr ⟨lw_p12, List.forall_mem_cons.mpr ⟨lw_p13, List.forall_mem_cons.mpr ⟨lw_p14, List.forall_mem_cons.mpr ⟨lw_p15, fun _ h => absurd h List.not_mem_nil⟩⟩⟩⟩⟩⟩⟩⟩⟩⟩⟩⟩⟩⟩⟩⟩
theorem lw_p16 : lw_okq (⟨"WhoPaysModel", "worth", "(I)J"⟩, 18) := ⟨⟨by decide +kernel, by decide +kernel⟩, List.mem_of_getElem? (i := 409) (by decide +kernel), List.mem_of_getElem? (i := 523) (by decide +kernel), List.mem_of_getElem? (i := 524) (by decide +kernel)⟩
theorem lw_p17 : lw_okq (⟨"WhoPaysModel", "pair", "(III)J"⟩, 18) := ⟨⟨by decide +kernel, by decide +kernel⟩, List.mem_of_getElem? (i := 409) (by decide +kernel), List.mem_of_getElem? (i := 527) (by decide +kernel), List.mem_of_getElem? (i := 528) (by decide +kernel)⟩
theorem lw_p18 : lw_okq (⟨"WhoPaysModel", "grossOf", "(I)J"⟩, 18) := ⟨⟨by decide +kernel, by decide +kernel⟩, List.mem_of_getElem? (i := 409) (by decide +kernel), List.mem_of_getElem? (i := 531) (by decide +kernel), List.mem_of_getElem? (i := 532) (by decide +kernel)⟩
theorem lw_p19 : lw_okq (⟨"WhoPaysModel", "helpOf", "(I)I"⟩, 18) := ⟨⟨by decide +kernel, by decide +kernel⟩, List.mem_of_getElem? (i := 409) (by decide +kernel), List.mem_of_getElem? (i := 575) (by decide +kernel), List.mem_of_getElem? (i := 576) (by decide +kernel)⟩
theorem lw_p20 : lw_okq (⟨"WhoPaysModel", "seek", "(I)V"⟩, 18) := ⟨⟨by decide +kernel, by decide +kernel⟩, List.mem_of_getElem? (i := 409) (by decide +kernel), List.mem_of_getElem? (i := 593) (by decide +kernel), List.mem_of_getElem? (i := 594) (by decide +kernel)⟩
theorem lw_p21 : lw_okq (⟨"WhoPaysModel", "isRing", "(I)Z"⟩, 18) := ⟨⟨by decide +kernel, by decide +kernel⟩, List.mem_of_getElem? (i := 409) (by decide +kernel), List.mem_of_getElem? (i := 597) (by decide +kernel), List.mem_of_getElem? (i := 598) (by decide +kernel)⟩
theorem lw_p22 : lw_okq (⟨"WhoPaysModel", "cancelOne", "()I"⟩, 18) := ⟨⟨by decide +kernel, by decide +kernel⟩, List.mem_of_getElem? (i := 409) (by decide +kernel), List.mem_of_getElem? (i := 609) (by decide +kernel), List.mem_of_getElem? (i := 610) (by decide +kernel)⟩
theorem lw_p23 : lw_okq (⟨"WhoPaysModel", "debtOf", "(I)I"⟩, 18) := ⟨⟨by decide +kernel, by decide +kernel⟩, List.mem_of_getElem? (i := 409) (by decide +kernel), List.mem_of_getElem? (i := 613) (by decide +kernel), List.mem_of_getElem? (i := 614) (by decide +kernel)⟩
theorem lw_p24 : lw_okq (⟨"WhoPaysModel", "passDay", "()I"⟩, 18) := ⟨⟨by decide +kernel, by decide +kernel⟩, List.mem_of_getElem? (i := 409) (by decide +kernel), List.mem_of_getElem? (i := 625) (by decide +kernel), List.mem_of_getElem? (i := 626) (by decide +kernel)⟩
theorem lw_p25 : lw_okq (⟨"WhoPaysModel", "payOne", "(II)I"⟩, 18) := ⟨⟨by decide +kernel, by decide +kernel⟩, List.mem_of_getElem? (i := 409) (by decide +kernel), List.mem_of_getElem? (i := 629) (by decide +kernel), List.mem_of_getElem? (i := 630) (by decide +kernel)⟩
theorem lw_p26 : lw_okq (⟨"WhoPaysModel", "mix", "(J)V"⟩, 18) := ⟨⟨by decide +kernel, by decide +kernel⟩, List.mem_of_getElem? (i := 409) (by decide +kernel), List.mem_of_getElem? (i := 646) (by decide +kernel), List.mem_of_getElem? (i := 647) (by decide +kernel)⟩
def lw_privs_2 : List (MethodName × Nat) := [(⟨"WhoPaysModel", "worth", "(I)J"⟩, 18), (⟨"WhoPaysModel", "pair", "(III)J"⟩, 18), (⟨"WhoPaysModel", "grossOf", "(I)J"⟩, 18), (⟨"WhoPaysModel", "helpOf", "(I)I"⟩, 18), (⟨"WhoPaysModel", "seek", "(I)V"⟩, 18), (⟨"WhoPaysModel", "isRing", "(I)Z"⟩, 18), (⟨"WhoPaysModel", "cancelOne", "()I"⟩, 18), (⟨"WhoPaysModel", "debtOf", "(I)I"⟩, 18), (⟨"WhoPaysModel", "passDay", "()I"⟩, 18), (⟨"WhoPaysModel", "payOne", "(II)I"⟩, 18), (⟨"WhoPaysModel", "mix", "(J)V"⟩, 18)]
theorem lw_r2 : ∀ q ∈ lw_privs_2, lw_okq q := List.forall_mem_cons.mpr ⟨lw_p16, List.forall_mem_cons.mpr ⟨lw_p17, List.forall_mem_cons.mpr ⟨lw_p18, List.forall_mem_cons.mpr ⟨lw_p19, List.forall_mem_cons.mpr ⟨lw_p20, List.forall_mem_cons.mpr ⟨lw_p21, List.forall_mem_cons.mpr ⟨lw_p22, List.forall_mem_cons.mpr ⟨lw_p23, List.forall_mem_cons.mpr ⟨lw_p24, List.forall_mem_cons.mpr ⟨lw_p25, List.forall_mem_cons.mpr ⟨lw_p26, fun _ h => absurd h List.not_mem_nil⟩⟩⟩⟩⟩⟩⟩⟩⟩⟩⟩
def lw_privs : List (MethodName × Nat) := lw_privs_1 ++ (lw_privs_2)
def lw_tbl : List Cond := k2_sels lw_privs ++ tables_1
theorem lw_privs_ok : ∀ q ∈ lw_privs, lw_okq q := by
  show ∀ q ∈ lw_privs_1 ++ (lw_privs_2), lw_okq q
  exact List.forall_mem_append.mpr ⟨lw_r1, lw_r2⟩
end
section
def RX0 : String := "WhoPays$Books"
def TX0 : u_T := fun k => match k with
  | 0 => ("WhoPays$Books", "houseCount", "I", false)
  | 1 => ("WhoPays$Books", "tollTenths", "I", false)
  | 2 => ("WhoPays$Books", "paidOut", "I", false)
  | 3 => ("WhoPays$Books", "coinRow", "[I", true)
  | _ => ("WhoPays$Books", "debtCells", "[I", true)
def tyX0 : Nat → FieldType := fun k => match k with
  | 0 => .int
  | 1 => .int
  | 2 => .int
  | 3 => .array .int
  | _ => .array .int
abbrev wsX00 : List Cond := u_ws RX0 TX0 5
theorem nmX0 : ∀ a, a < 5 → ∀ b, b < 5 → a ≠ b → (TX0 a).2.1 ≠ (TX0 b).2.1 := by decide +kernel
theorem tyX0_ok : ∀ k, k < 5 → parseFieldDescriptor (TX0 k).2.2.1 = some (tyX0 k) := by decide +kernel
abbrev cX0_init : ByteArray := prog_2_method_1_code
def yX0_init : MethodName := ⟨RX0, "<init>", "()V"⟩
abbrev cX0_open : ByteArray := prog_2_method_2_code
def yX0_open : MethodName := ⟨RX0, "open", "(I)V"⟩
abbrev cX0_isHouse : ByteArray := prog_2_method_3_code
def yX0_isHouse : MethodName := ⟨RX0, "isHouse", "(I)Z"⟩
abbrev cX0_isPayee : ByteArray := prog_2_method_4_code
def yX0_isPayee : MethodName := ⟨RX0, "isPayee", "(I)Z"⟩
abbrev cX0_columnOf : ByteArray := prog_2_method_5_code
def yX0_columnOf : MethodName := ⟨RX0, "columnOf", "(I)I"⟩
abbrev cX0_coins : ByteArray := prog_2_method_6_code
def yX0_coins : MethodName := ⟨RX0, "coins", "(I)I"⟩
abbrev cX0_setCoins : ByteArray := prog_2_method_7_code
def yX0_setCoins : MethodName := ⟨RX0, "setCoins", "(II)V"⟩
abbrev cX0_owed : ByteArray := prog_2_method_8_code
def yX0_owed : MethodName := ⟨RX0, "owed", "(II)I"⟩
abbrev cX0_setOwed : ByteArray := prog_2_method_9_code
def yX0_setOwed : MethodName := ⟨RX0, "setOwed", "(III)V"⟩
abbrev cX0_allOwedBy : ByteArray := prog_2_method_10_code
def yX0_allOwedBy : MethodName := ⟨RX0, "allOwedBy", "(I)I"⟩
abbrev cX0_allOwedTo : ByteArray := prog_2_method_11_code
def yX0_allOwedTo : MethodName := ⟨RX0, "allOwedTo", "(I)I"⟩
abbrev cX0_allCoins : ByteArray := prog_2_method_12_code
def yX0_allCoins : MethodName := ⟨RX0, "allCoins", "()I"⟩
abbrev cX0_allDebts : ByteArray := prog_2_method_13_code
def yX0_allDebts : MethodName := ⟨RX0, "allDebts", "()I"⟩
abbrev cX0_debtorCount : ByteArray := prog_2_method_14_code
def yX0_debtorCount : MethodName := ⟨RX0, "debtorCount", "()I"⟩
abbrev cX0_shortfall : ByteArray := prog_2_method_15_code
def yX0_shortfall : MethodName := ⟨RX0, "shortfall", "(I)I"⟩
abbrev cX0_helpNeeded : ByteArray := prog_2_method_16_code
def yX0_helpNeeded : MethodName := ⟨RX0, "helpNeeded", "(I)I"⟩
abbrev cX0_passDay : ByteArray := prog_2_method_17_code
def yX0_passDay : MethodName := ⟨RX0, "passDay", "()I"⟩
abbrev cX0_payWhole : ByteArray := prog_2_method_18_code
def yX0_payWhole : MethodName := ⟨RX0, "payWhole", "(II)I"⟩
def RX1 : String := "WhoPays$Clearing"
def TX1 : u_T := fun k => match k with
  | 0 => ("WhoPays$Clearing", "books", "LWhoPays$Books;", true)
  | 1 => ("WhoPays$Clearing", "fallRow", "[I", true)
  | 2 => ("WhoPays$Clearing", "shareRow", "[J", true)
  | 3 => ("WhoPays$Clearing", "matrix", "[J", true)
  | 4 => ("WhoPays$Clearing", "rightSide", "[J", true)
  | 5 => ("WhoPays$Clearing", "penniless", "I", false)
  | 6 => ("WhoPays$Clearing", "lastRound", "I", false)
  | _ => ("WhoPays$Clearing", "below", "J", false)
def tyX1 : Nat → FieldType := fun k => match k with
  | 0 => .object "WhoPays$Books"
  | 1 => .array .int
  | 2 => .array .long
  | 3 => .array .long
  | 4 => .array .long
  | 5 => .int
  | 6 => .int
  | _ => .long
abbrev wsX10 : List Cond := u_ws RX1 TX1 8
theorem nmX1 : ∀ a, a < 8 → ∀ b, b < 8 → a ≠ b → (TX1 a).2.1 ≠ (TX1 b).2.1 := by decide +kernel
theorem tyX1_ok : ∀ k, k < 8 → parseFieldDescriptor (TX1 k).2.2.1 = some (tyX1 k) := by decide +kernel
abbrev cX1_init : ByteArray := prog_3_method_1_code
def yX1_init : MethodName := ⟨RX1, "<init>", "(LWhoPays$Books;)V"⟩
abbrev cX1_settle : ByteArray := prog_3_method_2_code
def yX1_settle : MethodName := ⟨RX1, "settle", "(I)V"⟩
abbrev cX1_anyFallIn : ByteArray := prog_3_method_3_code
def yX1_anyFallIn : MethodName := ⟨RX1, "anyFallIn", "(I)Z"⟩
abbrev cX1_isFallen : ByteArray := prog_3_method_4_code
def yX1_isFallen : MethodName := ⟨RX1, "isFallen", "(I)Z"⟩
abbrev cX1_usableCoins : ByteArray := prog_3_method_5_code
def yX1_usableCoins : MethodName := ⟨RX1, "usableCoins", "(I)I"⟩
abbrev cX1_solveShares : ByteArray := prog_3_method_6_code
def yX1_solveShares : MethodName := ⟨RX1, "solveShares", "()V"⟩
abbrev cX1_writeEquation : ByteArray := prog_3_method_7_code
def yX1_writeEquation : MethodName := ⟨RX1, "writeEquation", "(I)V"⟩
abbrev cX1_determinant : ByteArray := prog_3_method_8_code
def yX1_determinant : MethodName := ⟨RX1, "determinant", "(I)J"⟩
abbrev cX1_minor : ByteArray := prog_3_method_9_code
def yX1_minor : MethodName := ⟨RX1, "minor", "(IIII)J"⟩
abbrev cX1_entry : ByteArray := prog_3_method_10_code
def yX1_entry : MethodName := ⟨RX1, "entry", "(III)J"⟩
abbrev cX1_roundOfFall : ByteArray := prog_3_method_11_code
def yX1_roundOfFall : MethodName := ⟨RX1, "roundOfFall", "(I)I"⟩
abbrev cX1_fallenCount : ByteArray := prog_3_method_12_code
def yX1_fallenCount : MethodName := ⟨RX1, "fallenCount", "()I"⟩
abbrev cX1_shareAbove : ByteArray := prog_3_method_13_code
def yX1_shareAbove : MethodName := ⟨RX1, "shareAbove", "(I)J"⟩
abbrev cX1_grossAbove : ByteArray := prog_3_method_14_code
def yX1_grossAbove : MethodName := ⟨RX1, "grossAbove", "(I)J"⟩
abbrev cX1_leftAbove : ByteArray := prog_3_method_15_code
def yX1_leftAbove : MethodName := ⟨RX1, "leftAbove", "(I)J"⟩
abbrev cX1_lostAbove : ByteArray := prog_3_method_16_code
def yX1_lostAbove : MethodName := ⟨RX1, "lostAbove", "()J"⟩
def RX2 : String := "WhoPays$Rings"
def TX2 : u_T := fun k => match k with
  | _ => ("WhoPays$Rings", "books", "LWhoPays$Books;", true)
def tyX2 : Nat → FieldType := fun k => match k with
  | _ => .object "WhoPays$Books"
abbrev wsX20 : List Cond := u_ws RX2 TX2 1
theorem nmX2 : ∀ a, a < 1 → ∀ b, b < 1 → a ≠ b → (TX2 a).2.1 ≠ (TX2 b).2.1 := by decide +kernel
theorem tyX2_ok : ∀ k, k < 1 → parseFieldDescriptor (TX2 k).2.2.1 = some (tyX2 k) := by decide +kernel
abbrev cX2_init : ByteArray := prog_4_method_1_code
def yX2_init : MethodName := ⟨RX2, "<init>", "(LWhoPays$Books;)V"⟩
abbrev cX2_howMany : ByteArray := prog_4_method_2_code
def yX2_howMany : MethodName := ⟨RX2, "howMany", "()I"⟩
abbrev cX2_figuresOf : ByteArray := prog_4_method_3_code
def yX2_figuresOf : MethodName := ⟨RX2, "figuresOf", "(I)I"⟩
abbrev cX2_sizeOf : ByteArray := prog_4_method_4_code
def yX2_sizeOf : MethodName := ⟨RX2, "sizeOf", "(I)I"⟩
abbrev cX2_firstOf : ByteArray := prog_4_method_5_code
def yX2_firstOf : MethodName := ⟨RX2, "firstOf", "(I)I"⟩
abbrev cX2_leastDebt : ByteArray := prog_4_method_6_code
def yX2_leastDebt : MethodName := ⟨RX2, "leastDebt", "(I)I"⟩
abbrev cX2_lessen : ByteArray := prog_4_method_7_code
def yX2_lessen : MethodName := ⟨RX2, "lessen", "(I)I"⟩
def RX3 : String := "WhoPays"
def TX3 : u_T := fun k => match k with
  | 0 => ("WhoPays", "books", "LWhoPays$Books;", true)
  | 1 => ("WhoPays", "clearing", "LWhoPays$Clearing;", true)
  | _ => ("WhoPays", "ringList", "LWhoPays$Rings;", true)
def tyX3 : Nat → FieldType := fun k => match k with
  | 0 => .object "WhoPays$Books"
  | 1 => .object "WhoPays$Clearing"
  | _ => .object "WhoPays$Rings"
abbrev wsX30 : List Cond := u_ws RX3 TX3 3
theorem nmX3 : ∀ a, a < 3 → ∀ b, b < 3 → a ≠ b → (TX3 a).2.1 ≠ (TX3 b).2.1 := by decide +kernel
theorem tyX3_ok : ∀ k, k < 3 → parseFieldDescriptor (TX3 k).2.2.1 = some (tyX3 k) := by decide +kernel
abbrev cX3_init : ByteArray := prog_1_method_1_code
def yX3_init : MethodName := ⟨RX3, "<init>", "()V"⟩
abbrev cX3_houses : ByteArray := prog_1_method_2_code
def yX3_houses : MethodName := ⟨RX3, "houses", "(I)I"⟩
abbrev cX3_cash : ByteArray := prog_1_method_3_code
def yX3_cash : MethodName := ⟨RX3, "cash", "(II)I"⟩
abbrev cX3_owe : ByteArray := prog_1_method_4_code
def yX3_owe : MethodName := ⟨RX3, "owe", "(III)I"⟩
abbrev cX3_toll : ByteArray := prog_1_method_5_code
def yX3_toll : MethodName := ⟨RX3, "toll", "(I)I"⟩
abbrev cX3_cashOf : ByteArray := prog_1_method_6_code
def yX3_cashOf : MethodName := ⟨RX3, "cashOf", "(I)I"⟩
abbrev cX3_debt : ByteArray := prog_1_method_7_code
def yX3_debt : MethodName := ⟨RX3, "debt", "(II)I"⟩
abbrev cX3_owes : ByteArray := prog_1_method_8_code
def yX3_owes : MethodName := ⟨RX3, "owes", "(I)I"⟩
abbrev cX3_falls : ByteArray := prog_1_method_9_code
def yX3_falls : MethodName := ⟨RX3, "falls", "(I)I"⟩
abbrev cX3_rounds : ByteArray := prog_1_method_10_code
def yX3_rounds : MethodName := ⟨RX3, "rounds", "()I"⟩
abbrev cX3_share : ByteArray := prog_1_method_11_code
def yX3_share : MethodName := ⟨RX3, "share", "(II)J"⟩
abbrev cX3_gross : ByteArray := prog_1_method_12_code
def yX3_gross : MethodName := ⟨RX3, "gross", "(II)J"⟩
abbrev cX3_pays : ByteArray := prog_1_method_13_code
def yX3_pays : MethodName := ⟨RX3, "pays", "(III)J"⟩
abbrev cX3_left : ByteArray := prog_1_method_14_code
def yX3_left : MethodName := ⟨RX3, "left", "(II)J"⟩
abbrev cX3_lost : ByteArray := prog_1_method_15_code
def yX3_lost : MethodName := ⟨RX3, "lost", "(I)J"⟩
abbrev cX3_drag : ByteArray := prog_1_method_16_code
def yX3_drag : MethodName := ⟨RX3, "drag", "(I)I"⟩
abbrev cX3_help : ByteArray := prog_1_method_17_code
def yX3_help : MethodName := ⟨RX3, "help", "(I)I"⟩
abbrev cX3_best : ByteArray := prog_1_method_18_code
def yX3_best : MethodName := ⟨RX3, "best", "()I"⟩
abbrev cX3_net : ByteArray := prog_1_method_19_code
def yX3_net : MethodName := ⟨RX3, "net", "(I)I"⟩
abbrev cX3_rings : ByteArray := prog_1_method_20_code
def yX3_rings : MethodName := ⟨RX3, "rings", "()I"⟩
abbrev cX3_ring : ByteArray := prog_1_method_21_code
def yX3_ring : MethodName := ⟨RX3, "ring", "(I)I"⟩
abbrev cX3_cancel : ByteArray := prog_1_method_22_code
def yX3_cancel : MethodName := ⟨RX3, "cancel", "()I"⟩
abbrev cX3_cancelAll : ByteArray := prog_1_method_23_code
def yX3_cancelAll : MethodName := ⟨RX3, "cancelAll", "()I"⟩
abbrev cX3_day : ByteArray := prog_1_method_24_code
def yX3_day : MethodName := ⟨RX3, "day", "()I"⟩
abbrev cX3_days : ByteArray := prog_1_method_25_code
def yX3_days : MethodName := ⟨RX3, "days", "()I"⟩
abbrev cX3_count : ByteArray := prog_1_method_26_code
def yX3_count : MethodName := ⟨RX3, "count", "(I)I"⟩
abbrev cX3_digest : ByteArray := prog_1_method_27_code
def yX3_digest : MethodName := ⟨RX3, "digest", "()J"⟩
abbrev cX3_isPart : ByteArray := prog_1_method_28_code
def yX3_isPart : MethodName := ⟨RX3, "isPart", "(I)Z"⟩
abbrev cX3_lowestTerms : ByteArray := prog_1_method_29_code
def yX3_lowestTerms : MethodName := ⟨RX3, "lowestTerms", "(JJI)J"⟩
abbrev cX3_commonDivisor : ByteArray := prog_1_method_30_code
def yX3_commonDivisor : MethodName := ⟨RX3, "commonDivisor", "(JJ)J"⟩
abbrev cX3_at : ByteArray := prog_1_method_31_code
def yX3_at : MethodName := ⟨RX3, "at", "([II)I"⟩
abbrev cX3_put : ByteArray := prog_1_method_32_code
def yX3_put : MethodName := ⟨RX3, "put", "([III)V"⟩
abbrev cX3_longAt : ByteArray := prog_1_method_33_code
def yX3_longAt : MethodName := ⟨RX3, "longAt", "([JI)J"⟩
abbrev cX3_putLong : ByteArray := prog_1_method_34_code
def yX3_putLong : MethodName := ⟨RX3, "putLong", "([JIJ)V"⟩
def RX4 : String := "WhoPaysModel"
def TX4 : u_T := fun k => match k with
  | 0 => ("WhoPaysModel", "n", "I", false)
  | 1 => ("WhoPaysModel", "toll", "I", false)
  | 2 => ("WhoPaysModel", "paidOut", "J", false)
  | 3 => ("WhoPaysModel", "cash", "[J", true)
  | 4 => ("WhoPaysModel", "debts", "[I", true)
  | 5 => ("WhoPaysModel", "fallen", "[I", true)
  | 6 => ("WhoPaysModel", "rounds", "I", false)
  | 7 => ("WhoPaysModel", "shares", "[J", true)
  | 8 => ("WhoPaysModel", "under", "J", false)
  | 9 => ("WhoPaysModel", "table", "[J", true)
  | 10 => ("WhoPaysModel", "right", "[J", true)
  | 11 => ("WhoPaysModel", "tried", "[J", true)
  | 12 => ("WhoPaysModel", "falls", "[Z", true)
  | 13 => ("WhoPaysModel", "ringSize", "I", false)
  | 14 => ("WhoPaysModel", "ringOf", "[I", true)
  | 15 => ("WhoPaysModel", "row", "[I", true)
  | 16 => ("WhoPaysModel", "found", "I", false)
  | _ => ("WhoPaysModel", "h", "J", false)
def tyX4 : Nat → FieldType := fun k => match k with
  | 0 => .int
  | 1 => .int
  | 2 => .long
  | 3 => .array .long
  | 4 => .array .int
  | 5 => .array .int
  | 6 => .int
  | 7 => .array .long
  | 8 => .long
  | 9 => .array .long
  | 10 => .array .long
  | 11 => .array .long
  | 12 => .array .boolean
  | 13 => .int
  | 14 => .array .int
  | 15 => .array .int
  | 16 => .int
  | _ => .long
abbrev wsX40 : List Cond := u_ws RX4 TX4 18
theorem nmX4 : ∀ a, a < 18 → ∀ b, b < 18 → a ≠ b → (TX4 a).2.1 ≠ (TX4 b).2.1 := by decide +kernel
theorem tyX4_ok : ∀ k, k < 18 → parseFieldDescriptor (TX4 k).2.2.1 = some (tyX4 k) := by decide +kernel
abbrev cX4_init : ByteArray := prog_6_method_1_code
def yX4_init : MethodName := ⟨RX4, "<init>", "()V"⟩
abbrev cX4_in : ByteArray := prog_6_method_3_code
def yX4_in : MethodName := ⟨RX4, "in", "(III)Z"⟩
abbrev cX4_isHouse : ByteArray := prog_6_method_4_code
def yX4_isHouse : MethodName := ⟨RX4, "isHouse", "(I)Z"⟩
abbrev cX4_houses : ByteArray := prog_6_method_5_code
def yX4_houses : MethodName := ⟨RX4, "houses", "(I)I"⟩
abbrev cX4_cash : ByteArray := prog_6_method_6_code
def yX4_cash : MethodName := ⟨RX4, "cash", "(II)I"⟩
abbrev cX4_owe : ByteArray := prog_6_method_7_code
def yX4_owe : MethodName := ⟨RX4, "owe", "(III)I"⟩
abbrev cX4_toll : ByteArray := prog_6_method_8_code
def yX4_toll : MethodName := ⟨RX4, "toll", "(I)I"⟩
abbrev cX4_cashOf : ByteArray := prog_6_method_9_code
def yX4_cashOf : MethodName := ⟨RX4, "cashOf", "(I)I"⟩
abbrev cX4_debt : ByteArray := prog_6_method_10_code
def yX4_debt : MethodName := ⟨RX4, "debt", "(II)I"⟩
abbrev cX4_owesOf : ByteArray := prog_6_method_11_code
def yX4_owesOf : MethodName := ⟨RX4, "owesOf", "(I)I"⟩
abbrev cX4_owes : ByteArray := prog_6_method_12_code
def yX4_owes : MethodName := ⟨RX4, "owes", "(I)I"⟩
abbrev cX4_pair : ByteArray := prog_6_method_13_code
def yX4_pair : MethodName := ⟨RX4, "pair", "(III)J"⟩
abbrev cX4_worth : ByteArray := prog_6_method_14_code
def yX4_worth : MethodName := ⟨RX4, "worth", "(I)J"⟩
abbrev cX4_solve : ByteArray := prog_6_method_15_code
def yX4_solve : MethodName := ⟨RX4, "solve", "()V"⟩
abbrev cX4_grossOf : ByteArray := prog_6_method_16_code
def yX4_grossOf : MethodName := ⟨RX4, "grossOf", "(I)J"⟩
abbrev cX4_clear : ByteArray := prog_6_method_17_code
def yX4_clear : MethodName := ⟨RX4, "clear", "()V"⟩
abbrev cX4_common : ByteArray := prog_6_method_18_code
def yX4_common : MethodName := ⟨RX4, "common", "(JJ)J"⟩
abbrev cX4_part : ByteArray := prog_6_method_19_code
def yX4_part : MethodName := ⟨RX4, "part", "(JJI)J"⟩
abbrev cX4_falls : ByteArray := prog_6_method_20_code
def yX4_falls : MethodName := ⟨RX4, "falls", "(I)I"⟩
abbrev cX4_rounds : ByteArray := prog_6_method_21_code
def yX4_rounds : MethodName := ⟨RX4, "rounds", "()I"⟩
abbrev cX4_share : ByteArray := prog_6_method_22_code
def yX4_share : MethodName := ⟨RX4, "share", "(II)J"⟩
abbrev cX4_gross : ByteArray := prog_6_method_23_code
def yX4_gross : MethodName := ⟨RX4, "gross", "(II)J"⟩
abbrev cX4_pays : ByteArray := prog_6_method_24_code
def yX4_pays : MethodName := ⟨RX4, "pays", "(III)J"⟩
abbrev cX4_left : ByteArray := prog_6_method_25_code
def yX4_left : MethodName := ⟨RX4, "left", "(II)J"⟩
abbrev cX4_lost : ByteArray := prog_6_method_26_code
def yX4_lost : MethodName := ⟨RX4, "lost", "(I)J"⟩
abbrev cX4_drag : ByteArray := prog_6_method_27_code
def yX4_drag : MethodName := ⟨RX4, "drag", "(I)I"⟩
abbrev cX4_helpOf : ByteArray := prog_6_method_28_code
def yX4_helpOf : MethodName := ⟨RX4, "helpOf", "(I)I"⟩
abbrev cX4_help : ByteArray := prog_6_method_29_code
def yX4_help : MethodName := ⟨RX4, "help", "(I)I"⟩
abbrev cX4_best : ByteArray := prog_6_method_30_code
def yX4_best : MethodName := ⟨RX4, "best", "()I"⟩
abbrev cX4_net : ByteArray := prog_6_method_31_code
def yX4_net : MethodName := ⟨RX4, "net", "(I)I"⟩
abbrev cX4_isRing : ByteArray := prog_6_method_32_code
def yX4_isRing : MethodName := ⟨RX4, "isRing", "(I)Z"⟩
abbrev cX4_seek : ByteArray := prog_6_method_33_code
def yX4_seek : MethodName := ⟨RX4, "seek", "(I)V"⟩
abbrev cX4_rings : ByteArray := prog_6_method_34_code
def yX4_rings : MethodName := ⟨RX4, "rings", "()I"⟩
abbrev cX4_ring : ByteArray := prog_6_method_35_code
def yX4_ring : MethodName := ⟨RX4, "ring", "(I)I"⟩
abbrev cX4_debtOf : ByteArray := prog_6_method_36_code
def yX4_debtOf : MethodName := ⟨RX4, "debtOf", "(I)I"⟩
abbrev cX4_cancelOne : ByteArray := prog_6_method_37_code
def yX4_cancelOne : MethodName := ⟨RX4, "cancelOne", "()I"⟩
abbrev cX4_cancel : ByteArray := prog_6_method_38_code
def yX4_cancel : MethodName := ⟨RX4, "cancel", "()I"⟩
abbrev cX4_cancelAll : ByteArray := prog_6_method_39_code
def yX4_cancelAll : MethodName := ⟨RX4, "cancelAll", "()I"⟩
abbrev cX4_payOne : ByteArray := prog_6_method_40_code
def yX4_payOne : MethodName := ⟨RX4, "payOne", "(II)I"⟩
abbrev cX4_passDay : ByteArray := prog_6_method_41_code
def yX4_passDay : MethodName := ⟨RX4, "passDay", "()I"⟩
abbrev cX4_day : ByteArray := prog_6_method_42_code
def yX4_day : MethodName := ⟨RX4, "day", "()I"⟩
abbrev cX4_days : ByteArray := prog_6_method_43_code
def yX4_days : MethodName := ⟨RX4, "days", "()I"⟩
abbrev cX4_count : ByteArray := prog_6_method_44_code
def yX4_count : MethodName := ⟨RX4, "count", "(I)I"⟩
abbrev cX4_mix : ByteArray := prog_6_method_45_code
def yX4_mix : MethodName := ⟨RX4, "mix", "(J)V"⟩
abbrev cX4_digest : ByteArray := prog_6_method_46_code
def yX4_digest : MethodName := ⟨RX4, "digest", "()J"⟩
def RJ9 : String := "java/lang/Math"
abbrev cJ9_abs_067f4 : ByteArray := prog_7_method_61_code
def yJ9_abs_067f4 : MethodName := ⟨RJ9, "abs", "(J)J"⟩
abbrev cJ9_max_7cf53 : ByteArray := prog_7_method_65_code
def yJ9_max_7cf53 : MethodName := ⟨RJ9, "max", "(II)I"⟩
abbrev cJ9_min_7cf53 : ByteArray := prog_7_method_69_code
def yJ9_min_7cf53 : MethodName := ⟨RJ9, "min", "(II)I"⟩
def RL : String := "WhoPaysLaw"
abbrev cL_law : ByteArray := code
def yL_law : MethodName := ⟨RL, "law", "([I)Z"⟩
def tblG : List Cond := lw_tbl.filter goodWord
theorem mG {c : Cond} (i : Nat) (h : lw_tbl[i]? = some c) (hg : goodWord c = true) : c ∈ tblG := List.mem_filter.mpr ⟨List.mem_of_getElem? h, hg⟩
theorem good_cons {c : Cond} (hc : c ∈ tblG) : GoodIn tblG (c :: tblG) := fun w hw => by
  have hm : w ∈ tblG := by
    rcases List.mem_cons.mp hw with h | h
    · rw [h]; exact hc
    · exact h
  exact ⟨hm, good_of_word (List.mem_filter.mp hm).2⟩
theorem inX0 : ∀ w ∈ u_ws RX0 TX0 5, w ∈ tblG := by decide +kernel
theorem inX1 : ∀ w ∈ u_ws RX1 TX1 8, w ∈ tblG := by decide +kernel
theorem inX2 : ∀ w ∈ u_ws RX2 TX2 1, w ∈ tblG := by decide +kernel
theorem inX3 : ∀ w ∈ u_ws RX3 TX3 3, w ∈ tblG := by decide +kernel
theorem inX4 : ∀ w ∈ u_ws RX4 TX4 18, w ∈ tblG := by decide +kernel
abbrev clsL : List vw_C := [(RX0, TX0, 5), (RX1, TX1, 8), (RX2, TX2, 1), (RX3, TX3, 3), (RX4, TX4, 18)]
end
section
theorem dX0_init_0 : decode cX0_init 0 = .ok (.aload_n 0, 1) := by decide +kernel
theorem dX0_init_1 : decode cX0_init 1 = .ok (.invokespecial 5, 3) := by decide +kernel
theorem dX0_init_4 : decode cX0_init 4 = .ok (.aload_n 0, 1) := by decide +kernel
theorem dX0_init_5 : decode cX0_init 5 = .ok (.iconst 1, 1) := by decide +kernel
theorem dX0_init_6 : decode cX0_init 6 = .ok (.putfield 11, 3) := by decide +kernel
theorem dX0_init_9 : decode cX0_init 9 = .ok (.aload_n 0, 1) := by decide +kernel
theorem dX0_init_10 : decode cX0_init 10 = .ok (.iconst 0, 1) := by decide +kernel
theorem dX0_init_11 : decode cX0_init 11 = .ok (.putfield 15, 3) := by decide +kernel
theorem dX0_init_14 : decode cX0_init 14 = .ok (.aload_n 0, 1) := by decide +kernel
theorem dX0_init_15 : decode cX0_init 15 = .ok (.iconst 0, 1) := by decide +kernel
theorem dX0_init_16 : decode cX0_init 16 = .ok (.putfield 18, 3) := by decide +kernel
theorem dX0_init_19 : decode cX0_init 19 = .ok (.aload_n 0, 1) := by decide +kernel
theorem dX0_init_20 : decode cX0_init 20 = .ok (.iconst 4, 1) := by decide +kernel
theorem dX0_init_21 : decode cX0_init 21 = .ok (.newarray .int, 2) := by decide +kernel
theorem dX0_init_23 : decode cX0_init 23 = .ok (.putfield 21, 3) := by decide +kernel
theorem dX0_init_26 : decode cX0_init 26 = .ok (.aload_n 0, 1) := by decide +kernel
theorem dX0_init_27 : decode cX0_init 27 = .ok (.bipush 20, 2) := by decide +kernel
theorem dX0_init_29 : decode cX0_init 29 = .ok (.newarray .int, 2) := by decide +kernel
theorem dX0_init_31 : decode cX0_init 31 = .ok (.putfield 25, 3) := by decide +kernel
theorem dX0_init_34 : decode cX0_init 34 = .ok (.return_, 1) := by decide +kernel
theorem dX0_open_0 : decode cX0_open 0 = .ok (.aload_n 0, 1) := by decide +kernel
theorem dX0_open_1 : decode cX0_open 1 = .ok (.iload_n 1, 1) := by decide +kernel
theorem dX0_open_2 : decode cX0_open 2 = .ok (.putfield 11, 3) := by decide +kernel
theorem dX0_open_5 : decode cX0_open 5 = .ok (.aload_n 0, 1) := by decide +kernel
theorem dX0_open_6 : decode cX0_open 6 = .ok (.iconst 0, 1) := by decide +kernel
theorem dX0_open_7 : decode cX0_open 7 = .ok (.putfield 15, 3) := by decide +kernel
theorem dX0_open_10 : decode cX0_open 10 = .ok (.aload_n 0, 1) := by decide +kernel
theorem dX0_open_11 : decode cX0_open 11 = .ok (.iconst 0, 1) := by decide +kernel
theorem dX0_open_12 : decode cX0_open 12 = .ok (.putfield 18, 3) := by decide +kernel
theorem dX0_open_15 : decode cX0_open 15 = .ok (.iconst 0, 1) := by decide +kernel
theorem dX0_open_16 : decode cX0_open 16 = .ok (.istore_n 2, 1) := by decide +kernel
theorem dX0_open_17 : decode cX0_open 17 = .ok (.iload_n 2, 1) := by decide +kernel
theorem dX0_open_18 : decode cX0_open 18 = .ok (.iconst 4, 1) := by decide +kernel
theorem dX0_open_19 : decode cX0_open 19 = .ok (.if_icmp .ge 18, 3) := by decide +kernel
theorem dX0_open_22 : decode cX0_open 22 = .ok (.aload_n 0, 1) := by decide +kernel
theorem dX0_open_23 : decode cX0_open 23 = .ok (.getfield 21, 3) := by decide +kernel
theorem dX0_open_26 : decode cX0_open 26 = .ok (.iload_n 2, 1) := by decide +kernel
theorem dX0_open_27 : decode cX0_open 27 = .ok (.iconst 0, 1) := by decide +kernel
theorem dX0_open_28 : decode cX0_open 28 = .ok (.invokestatic 28, 3) := by decide +kernel
theorem dX0_open_31 : decode cX0_open 31 = .ok (.iinc 2 1, 3) := by decide +kernel
theorem dX0_open_34 : decode cX0_open 34 = .ok (.goto (-17), 3) := by decide +kernel
theorem dX0_open_37 : decode cX0_open 37 = .ok (.iconst 0, 1) := by decide +kernel
theorem dX0_open_38 : decode cX0_open 38 = .ok (.istore_n 2, 1) := by decide +kernel
theorem dX0_open_39 : decode cX0_open 39 = .ok (.iload_n 2, 1) := by decide +kernel
theorem dX0_open_40 : decode cX0_open 40 = .ok (.bipush 20, 2) := by decide +kernel
theorem dX0_open_42 : decode cX0_open 42 = .ok (.if_icmp .ge 18, 3) := by decide +kernel
theorem dX0_open_45 : decode cX0_open 45 = .ok (.aload_n 0, 1) := by decide +kernel
theorem dX0_open_46 : decode cX0_open 46 = .ok (.getfield 25, 3) := by decide +kernel
theorem dX0_open_49 : decode cX0_open 49 = .ok (.iload_n 2, 1) := by decide +kernel
theorem dX0_open_50 : decode cX0_open 50 = .ok (.iconst 0, 1) := by decide +kernel
theorem dX0_open_51 : decode cX0_open 51 = .ok (.invokestatic 28, 3) := by decide +kernel
theorem dX0_open_54 : decode cX0_open 54 = .ok (.iinc 2 1, 3) := by decide +kernel
theorem dX0_open_57 : decode cX0_open 57 = .ok (.goto (-18), 3) := by decide +kernel
theorem dX0_open_60 : decode cX0_open 60 = .ok (.return_, 1) := by decide +kernel
theorem dX0_isHouse_0 : decode cX0_isHouse 0 = .ok (.iload_n 1, 1) := by decide +kernel
theorem dX0_isHouse_1 : decode cX0_isHouse 1 = .ok (.ifCond .lt 15, 3) := by decide +kernel
theorem dX0_isHouse_4 : decode cX0_isHouse 4 = .ok (.iload_n 1, 1) := by decide +kernel
theorem dX0_isHouse_5 : decode cX0_isHouse 5 = .ok (.aload_n 0, 1) := by decide +kernel
theorem dX0_isHouse_6 : decode cX0_isHouse 6 = .ok (.getfield 11, 3) := by decide +kernel
theorem dX0_isHouse_9 : decode cX0_isHouse 9 = .ok (.if_icmp .ge 7, 3) := by decide +kernel
theorem dX0_isHouse_12 : decode cX0_isHouse 12 = .ok (.iconst 1, 1) := by decide +kernel
theorem dX0_isHouse_13 : decode cX0_isHouse 13 = .ok (.goto 4, 3) := by decide +kernel
theorem dX0_isHouse_16 : decode cX0_isHouse 16 = .ok (.iconst 0, 1) := by decide +kernel
theorem dX0_isHouse_17 : decode cX0_isHouse 17 = .ok (.ireturn, 1) := by decide +kernel
theorem dX0_isPayee_0 : decode cX0_isPayee 0 = .ok (.iload_n 1, 1) := by decide +kernel
theorem dX0_isPayee_1 : decode cX0_isPayee 1 = .ok (.ifCond .lt 15, 3) := by decide +kernel
theorem dX0_isPayee_4 : decode cX0_isPayee 4 = .ok (.iload_n 1, 1) := by decide +kernel
theorem dX0_isPayee_5 : decode cX0_isPayee 5 = .ok (.aload_n 0, 1) := by decide +kernel
theorem dX0_isPayee_6 : decode cX0_isPayee 6 = .ok (.getfield 11, 3) := by decide +kernel
theorem dX0_isPayee_9 : decode cX0_isPayee 9 = .ok (.if_icmp .gt 7, 3) := by decide +kernel
theorem dX0_isPayee_12 : decode cX0_isPayee 12 = .ok (.iconst 1, 1) := by decide +kernel
theorem dX0_isPayee_13 : decode cX0_isPayee 13 = .ok (.goto 4, 3) := by decide +kernel
theorem dX0_isPayee_16 : decode cX0_isPayee 16 = .ok (.iconst 0, 1) := by decide +kernel
theorem dX0_isPayee_17 : decode cX0_isPayee 17 = .ok (.ireturn, 1) := by decide +kernel
theorem dX0_columnOf_0 : decode cX0_columnOf 0 = .ok (.iload_n 1, 1) := by decide +kernel
theorem dX0_columnOf_1 : decode cX0_columnOf 1 = .ok (.aload_n 0, 1) := by decide +kernel
theorem dX0_columnOf_2 : decode cX0_columnOf 2 = .ok (.getfield 11, 3) := by decide +kernel
theorem dX0_columnOf_5 : decode cX0_columnOf 5 = .ok (.if_icmp .ne 7, 3) := by decide +kernel
theorem dX0_columnOf_8 : decode cX0_columnOf 8 = .ok (.iconst 4, 1) := by decide +kernel
theorem dX0_columnOf_9 : decode cX0_columnOf 9 = .ok (.goto 4, 3) := by decide +kernel
theorem dX0_columnOf_12 : decode cX0_columnOf 12 = .ok (.iload_n 1, 1) := by decide +kernel
theorem dX0_columnOf_13 : decode cX0_columnOf 13 = .ok (.ireturn, 1) := by decide +kernel
theorem dX0_coins_0 : decode cX0_coins 0 = .ok (.aload_n 0, 1) := by decide +kernel
theorem dX0_coins_1 : decode cX0_coins 1 = .ok (.getfield 21, 3) := by decide +kernel
theorem dX0_coins_4 : decode cX0_coins 4 = .ok (.iload_n 1, 1) := by decide +kernel
theorem dX0_coins_5 : decode cX0_coins 5 = .ok (.invokestatic 32, 3) := by decide +kernel
theorem dX0_coins_8 : decode cX0_coins 8 = .ok (.ireturn, 1) := by decide +kernel
theorem dX0_setCoins_0 : decode cX0_setCoins 0 = .ok (.aload_n 0, 1) := by decide +kernel
theorem dX0_setCoins_1 : decode cX0_setCoins 1 = .ok (.getfield 21, 3) := by decide +kernel
theorem dX0_setCoins_4 : decode cX0_setCoins 4 = .ok (.iload_n 1, 1) := by decide +kernel
theorem dX0_setCoins_5 : decode cX0_setCoins 5 = .ok (.iload_n 2, 1) := by decide +kernel
theorem dX0_setCoins_6 : decode cX0_setCoins 6 = .ok (.invokestatic 28, 3) := by decide +kernel
theorem dX0_setCoins_9 : decode cX0_setCoins 9 = .ok (.return_, 1) := by decide +kernel
theorem dX0_owed_0 : decode cX0_owed 0 = .ok (.aload_n 0, 1) := by decide +kernel
theorem dX0_owed_1 : decode cX0_owed 1 = .ok (.getfield 25, 3) := by decide +kernel
theorem dX0_owed_4 : decode cX0_owed 4 = .ok (.iload_n 1, 1) := by decide +kernel
theorem dX0_owed_5 : decode cX0_owed 5 = .ok (.iconst 5, 1) := by decide +kernel
theorem dX0_owed_6 : decode cX0_owed 6 = .ok (.imul, 1) := by decide +kernel
theorem dX0_owed_7 : decode cX0_owed 7 = .ok (.iload_n 2, 1) := by decide +kernel
theorem dX0_owed_8 : decode cX0_owed 8 = .ok (.iadd, 1) := by decide +kernel
theorem dX0_owed_9 : decode cX0_owed 9 = .ok (.invokestatic 32, 3) := by decide +kernel
theorem dX0_owed_12 : decode cX0_owed 12 = .ok (.ireturn, 1) := by decide +kernel
theorem dX0_setOwed_0 : decode cX0_setOwed 0 = .ok (.aload_n 0, 1) := by decide +kernel
theorem dX0_setOwed_1 : decode cX0_setOwed 1 = .ok (.getfield 25, 3) := by decide +kernel
theorem dX0_setOwed_4 : decode cX0_setOwed 4 = .ok (.iload_n 1, 1) := by decide +kernel
theorem dX0_setOwed_5 : decode cX0_setOwed 5 = .ok (.iconst 5, 1) := by decide +kernel
theorem dX0_setOwed_6 : decode cX0_setOwed 6 = .ok (.imul, 1) := by decide +kernel
theorem dX0_setOwed_7 : decode cX0_setOwed 7 = .ok (.iload_n 2, 1) := by decide +kernel
theorem dX0_setOwed_8 : decode cX0_setOwed 8 = .ok (.iadd, 1) := by decide +kernel
theorem dX0_setOwed_9 : decode cX0_setOwed 9 = .ok (.iload_n 3, 1) := by decide +kernel
theorem dX0_setOwed_10 : decode cX0_setOwed 10 = .ok (.invokestatic 28, 3) := by decide +kernel
theorem dX0_setOwed_13 : decode cX0_setOwed 13 = .ok (.return_, 1) := by decide +kernel
theorem dX0_allOwedBy_0 : decode cX0_allOwedBy 0 = .ok (.iconst 0, 1) := by decide +kernel
theorem dX0_allOwedBy_1 : decode cX0_allOwedBy 1 = .ok (.istore_n 2, 1) := by decide +kernel
theorem dX0_allOwedBy_2 : decode cX0_allOwedBy 2 = .ok (.iconst 0, 1) := by decide +kernel
theorem dX0_allOwedBy_3 : decode cX0_allOwedBy 3 = .ok (.istore_n 3, 1) := by decide +kernel
theorem dX0_allOwedBy_4 : decode cX0_allOwedBy 4 = .ok (.iload_n 3, 1) := by decide +kernel
theorem dX0_allOwedBy_5 : decode cX0_allOwedBy 5 = .ok (.iconst 5, 1) := by decide +kernel
theorem dX0_allOwedBy_6 : decode cX0_allOwedBy 6 = .ok (.if_icmp .ge 18, 3) := by decide +kernel
theorem dX0_allOwedBy_9 : decode cX0_allOwedBy 9 = .ok (.iload_n 2, 1) := by decide +kernel
theorem dX0_allOwedBy_10 : decode cX0_allOwedBy 10 = .ok (.aload_n 0, 1) := by decide +kernel
theorem dX0_allOwedBy_11 : decode cX0_allOwedBy 11 = .ok (.iload_n 1, 1) := by decide +kernel
theorem dX0_allOwedBy_12 : decode cX0_allOwedBy 12 = .ok (.iload_n 3, 1) := by decide +kernel
theorem dX0_allOwedBy_13 : decode cX0_allOwedBy 13 = .ok (.invokevirtual 36, 3) := by decide +kernel
theorem dX0_allOwedBy_16 : decode cX0_allOwedBy 16 = .ok (.iadd, 1) := by decide +kernel
theorem dX0_allOwedBy_17 : decode cX0_allOwedBy 17 = .ok (.istore_n 2, 1) := by decide +kernel
theorem dX0_allOwedBy_18 : decode cX0_allOwedBy 18 = .ok (.iinc 3 1, 3) := by decide +kernel
theorem dX0_allOwedBy_21 : decode cX0_allOwedBy 21 = .ok (.goto (-17), 3) := by decide +kernel
theorem dX0_allOwedBy_24 : decode cX0_allOwedBy 24 = .ok (.iload_n 2, 1) := by decide +kernel
theorem dX0_allOwedBy_25 : decode cX0_allOwedBy 25 = .ok (.ireturn, 1) := by decide +kernel
theorem dX0_allOwedTo_0 : decode cX0_allOwedTo 0 = .ok (.iconst 0, 1) := by decide +kernel
theorem dX0_allOwedTo_1 : decode cX0_allOwedTo 1 = .ok (.istore_n 2, 1) := by decide +kernel
theorem dX0_allOwedTo_2 : decode cX0_allOwedTo 2 = .ok (.iconst 0, 1) := by decide +kernel
theorem dX0_allOwedTo_3 : decode cX0_allOwedTo 3 = .ok (.istore_n 3, 1) := by decide +kernel
theorem dX0_allOwedTo_4 : decode cX0_allOwedTo 4 = .ok (.iload_n 3, 1) := by decide +kernel
theorem dX0_allOwedTo_5 : decode cX0_allOwedTo 5 = .ok (.iconst 4, 1) := by decide +kernel
theorem dX0_allOwedTo_6 : decode cX0_allOwedTo 6 = .ok (.if_icmp .ge 18, 3) := by decide +kernel
theorem dX0_allOwedTo_9 : decode cX0_allOwedTo 9 = .ok (.iload_n 2, 1) := by decide +kernel
theorem dX0_allOwedTo_10 : decode cX0_allOwedTo 10 = .ok (.aload_n 0, 1) := by decide +kernel
theorem dX0_allOwedTo_11 : decode cX0_allOwedTo 11 = .ok (.iload_n 3, 1) := by decide +kernel
theorem dX0_allOwedTo_12 : decode cX0_allOwedTo 12 = .ok (.iload_n 1, 1) := by decide +kernel
theorem dX0_allOwedTo_13 : decode cX0_allOwedTo 13 = .ok (.invokevirtual 36, 3) := by decide +kernel
theorem dX0_allOwedTo_16 : decode cX0_allOwedTo 16 = .ok (.iadd, 1) := by decide +kernel
theorem dX0_allOwedTo_17 : decode cX0_allOwedTo 17 = .ok (.istore_n 2, 1) := by decide +kernel
theorem dX0_allOwedTo_18 : decode cX0_allOwedTo 18 = .ok (.iinc 3 1, 3) := by decide +kernel
theorem dX0_allOwedTo_21 : decode cX0_allOwedTo 21 = .ok (.goto (-17), 3) := by decide +kernel
theorem dX0_allOwedTo_24 : decode cX0_allOwedTo 24 = .ok (.iload_n 2, 1) := by decide +kernel
theorem dX0_allOwedTo_25 : decode cX0_allOwedTo 25 = .ok (.ireturn, 1) := by decide +kernel
theorem dX0_allCoins_0 : decode cX0_allCoins 0 = .ok (.iconst 0, 1) := by decide +kernel
theorem dX0_allCoins_1 : decode cX0_allCoins 1 = .ok (.istore_n 1, 1) := by decide +kernel
theorem dX0_allCoins_2 : decode cX0_allCoins 2 = .ok (.iconst 0, 1) := by decide +kernel
theorem dX0_allCoins_3 : decode cX0_allCoins 3 = .ok (.istore_n 2, 1) := by decide +kernel
theorem dX0_allCoins_4 : decode cX0_allCoins 4 = .ok (.iload_n 2, 1) := by decide +kernel
theorem dX0_allCoins_5 : decode cX0_allCoins 5 = .ok (.iconst 4, 1) := by decide +kernel
theorem dX0_allCoins_6 : decode cX0_allCoins 6 = .ok (.if_icmp .ge 17, 3) := by decide +kernel
theorem dX0_allCoins_9 : decode cX0_allCoins 9 = .ok (.iload_n 1, 1) := by decide +kernel
theorem dX0_allCoins_10 : decode cX0_allCoins 10 = .ok (.aload_n 0, 1) := by decide +kernel
theorem dX0_allCoins_11 : decode cX0_allCoins 11 = .ok (.iload_n 2, 1) := by decide +kernel
theorem dX0_allCoins_12 : decode cX0_allCoins 12 = .ok (.invokevirtual 40, 3) := by decide +kernel
theorem dX0_allCoins_15 : decode cX0_allCoins 15 = .ok (.iadd, 1) := by decide +kernel
theorem dX0_allCoins_16 : decode cX0_allCoins 16 = .ok (.istore_n 1, 1) := by decide +kernel
theorem dX0_allCoins_17 : decode cX0_allCoins 17 = .ok (.iinc 2 1, 3) := by decide +kernel
theorem dX0_allCoins_20 : decode cX0_allCoins 20 = .ok (.goto (-16), 3) := by decide +kernel
theorem dX0_allCoins_23 : decode cX0_allCoins 23 = .ok (.iload_n 1, 1) := by decide +kernel
theorem dX0_allCoins_24 : decode cX0_allCoins 24 = .ok (.ireturn, 1) := by decide +kernel
theorem dX0_allDebts_0 : decode cX0_allDebts 0 = .ok (.iconst 0, 1) := by decide +kernel
theorem dX0_allDebts_1 : decode cX0_allDebts 1 = .ok (.istore_n 1, 1) := by decide +kernel
theorem dX0_allDebts_2 : decode cX0_allDebts 2 = .ok (.iconst 0, 1) := by decide +kernel
theorem dX0_allDebts_3 : decode cX0_allDebts 3 = .ok (.istore_n 2, 1) := by decide +kernel
theorem dX0_allDebts_4 : decode cX0_allDebts 4 = .ok (.iload_n 2, 1) := by decide +kernel
theorem dX0_allDebts_5 : decode cX0_allDebts 5 = .ok (.iconst 4, 1) := by decide +kernel
theorem dX0_allDebts_6 : decode cX0_allDebts 6 = .ok (.if_icmp .ge 17, 3) := by decide +kernel
theorem dX0_allDebts_9 : decode cX0_allDebts 9 = .ok (.iload_n 1, 1) := by decide +kernel
theorem dX0_allDebts_10 : decode cX0_allDebts 10 = .ok (.aload_n 0, 1) := by decide +kernel
theorem dX0_allDebts_11 : decode cX0_allDebts 11 = .ok (.iload_n 2, 1) := by decide +kernel
theorem dX0_allDebts_12 : decode cX0_allDebts 12 = .ok (.invokevirtual 44, 3) := by decide +kernel
theorem dX0_allDebts_15 : decode cX0_allDebts 15 = .ok (.iadd, 1) := by decide +kernel
theorem dX0_allDebts_16 : decode cX0_allDebts 16 = .ok (.istore_n 1, 1) := by decide +kernel
theorem dX0_allDebts_17 : decode cX0_allDebts 17 = .ok (.iinc 2 1, 3) := by decide +kernel
theorem dX0_allDebts_20 : decode cX0_allDebts 20 = .ok (.goto (-16), 3) := by decide +kernel
theorem dX0_allDebts_23 : decode cX0_allDebts 23 = .ok (.iload_n 1, 1) := by decide +kernel
theorem dX0_allDebts_24 : decode cX0_allDebts 24 = .ok (.ireturn, 1) := by decide +kernel
theorem dX0_debtorCount_0 : decode cX0_debtorCount 0 = .ok (.iconst 0, 1) := by decide +kernel
theorem dX0_debtorCount_1 : decode cX0_debtorCount 1 = .ok (.istore_n 1, 1) := by decide +kernel
theorem dX0_debtorCount_2 : decode cX0_debtorCount 2 = .ok (.iconst 0, 1) := by decide +kernel
theorem dX0_debtorCount_3 : decode cX0_debtorCount 3 = .ok (.istore_n 2, 1) := by decide +kernel
theorem dX0_debtorCount_4 : decode cX0_debtorCount 4 = .ok (.iload_n 2, 1) := by decide +kernel
theorem dX0_debtorCount_5 : decode cX0_debtorCount 5 = .ok (.iconst 4, 1) := by decide +kernel
theorem dX0_debtorCount_6 : decode cX0_debtorCount 6 = .ok (.if_icmp .ge 20, 3) := by decide +kernel
theorem dX0_debtorCount_9 : decode cX0_debtorCount 9 = .ok (.aload_n 0, 1) := by decide +kernel
theorem dX0_debtorCount_10 : decode cX0_debtorCount 10 = .ok (.iload_n 2, 1) := by decide +kernel
theorem dX0_debtorCount_11 : decode cX0_debtorCount 11 = .ok (.invokevirtual 44, 3) := by decide +kernel
theorem dX0_debtorCount_14 : decode cX0_debtorCount 14 = .ok (.ifCond .le 6, 3) := by decide +kernel
theorem dX0_debtorCount_17 : decode cX0_debtorCount 17 = .ok (.iinc 1 1, 3) := by decide +kernel
theorem dX0_debtorCount_20 : decode cX0_debtorCount 20 = .ok (.iinc 2 1, 3) := by decide +kernel
theorem dX0_debtorCount_23 : decode cX0_debtorCount 23 = .ok (.goto (-19), 3) := by decide +kernel
theorem dX0_debtorCount_26 : decode cX0_debtorCount 26 = .ok (.iload_n 1, 1) := by decide +kernel
theorem dX0_debtorCount_27 : decode cX0_debtorCount 27 = .ok (.ireturn, 1) := by decide +kernel
theorem dX0_shortfall_0 : decode cX0_shortfall 0 = .ok (.aload_n 0, 1) := by decide +kernel
theorem dX0_shortfall_1 : decode cX0_shortfall 1 = .ok (.iload_n 1, 1) := by decide +kernel
theorem dX0_shortfall_2 : decode cX0_shortfall 2 = .ok (.invokevirtual 44, 3) := by decide +kernel
theorem dX0_shortfall_5 : decode cX0_shortfall 5 = .ok (.aload_n 0, 1) := by decide +kernel
theorem dX0_shortfall_6 : decode cX0_shortfall 6 = .ok (.iload_n 1, 1) := by decide +kernel
theorem dX0_shortfall_7 : decode cX0_shortfall 7 = .ok (.invokevirtual 40, 3) := by decide +kernel
theorem dX0_shortfall_10 : decode cX0_shortfall 10 = .ok (.isub, 1) := by decide +kernel
theorem dX0_shortfall_11 : decode cX0_shortfall 11 = .ok (.aload_n 0, 1) := by decide +kernel
theorem dX0_shortfall_12 : decode cX0_shortfall 12 = .ok (.iload_n 1, 1) := by decide +kernel
theorem dX0_shortfall_13 : decode cX0_shortfall 13 = .ok (.invokevirtual 47, 3) := by decide +kernel
theorem dX0_shortfall_16 : decode cX0_shortfall 16 = .ok (.isub, 1) := by decide +kernel
theorem dX0_shortfall_17 : decode cX0_shortfall 17 = .ok (.ireturn, 1) := by decide +kernel
theorem dX0_helpNeeded_0 : decode cX0_helpNeeded 0 = .ok (.iconst 0, 1) := by decide +kernel
theorem dX0_helpNeeded_1 : decode cX0_helpNeeded 1 = .ok (.istore_n 2, 1) := by decide +kernel
theorem dX0_helpNeeded_2 : decode cX0_helpNeeded 2 = .ok (.iload_n 2, 1) := by decide +kernel
theorem dX0_helpNeeded_3 : decode cX0_helpNeeded 3 = .ok (.iconst 4, 1) := by decide +kernel
theorem dX0_helpNeeded_4 : decode cX0_helpNeeded 4 = .ok (.if_icmp .ge 24, 3) := by decide +kernel
theorem dX0_helpNeeded_7 : decode cX0_helpNeeded 7 = .ok (.iload_n 2, 1) := by decide +kernel
theorem dX0_helpNeeded_8 : decode cX0_helpNeeded 8 = .ok (.iload_n 1, 1) := by decide +kernel
theorem dX0_helpNeeded_9 : decode cX0_helpNeeded 9 = .ok (.if_icmp .eq 13, 3) := by decide +kernel
theorem dX0_helpNeeded_12 : decode cX0_helpNeeded 12 = .ok (.aload_n 0, 1) := by decide +kernel
theorem dX0_helpNeeded_13 : decode cX0_helpNeeded 13 = .ok (.iload_n 2, 1) := by decide +kernel
theorem dX0_helpNeeded_14 : decode cX0_helpNeeded 14 = .ok (.invokevirtual 50, 3) := by decide +kernel
theorem dX0_helpNeeded_17 : decode cX0_helpNeeded 17 = .ok (.ifCond .le 5, 3) := by decide +kernel
theorem dX0_helpNeeded_20 : decode cX0_helpNeeded 20 = .ok (.iconst (-1), 1) := by decide +kernel
theorem dX0_helpNeeded_21 : decode cX0_helpNeeded 21 = .ok (.ireturn, 1) := by decide +kernel
theorem dX0_helpNeeded_22 : decode cX0_helpNeeded 22 = .ok (.iinc 2 1, 3) := by decide +kernel
theorem dX0_helpNeeded_25 : decode cX0_helpNeeded 25 = .ok (.goto (-23), 3) := by decide +kernel
theorem dX0_helpNeeded_28 : decode cX0_helpNeeded 28 = .ok (.iconst 0, 1) := by decide +kernel
theorem dX0_helpNeeded_29 : decode cX0_helpNeeded 29 = .ok (.aload_n 0, 1) := by decide +kernel
theorem dX0_helpNeeded_30 : decode cX0_helpNeeded 30 = .ok (.iload_n 1, 1) := by decide +kernel
theorem dX0_helpNeeded_31 : decode cX0_helpNeeded 31 = .ok (.invokevirtual 50, 3) := by decide +kernel
theorem dX0_helpNeeded_34 : decode cX0_helpNeeded 34 = .ok (.invokestatic 53, 3) := by decide +kernel
theorem dX0_helpNeeded_37 : decode cX0_helpNeeded 37 = .ok (.ireturn, 1) := by decide +kernel
theorem dX0_passDay_0 : decode cX0_passDay 0 = .ok (.iconst 0, 1) := by decide +kernel
theorem dX0_passDay_1 : decode cX0_passDay 1 = .ok (.istore_n 1, 1) := by decide +kernel
theorem dX0_passDay_2 : decode cX0_passDay 2 = .ok (.iconst 0, 1) := by decide +kernel
theorem dX0_passDay_3 : decode cX0_passDay 3 = .ok (.istore_n 2, 1) := by decide +kernel
theorem dX0_passDay_4 : decode cX0_passDay 4 = .ok (.iload_n 2, 1) := by decide +kernel
theorem dX0_passDay_5 : decode cX0_passDay 5 = .ok (.iconst 4, 1) := by decide +kernel
theorem dX0_passDay_6 : decode cX0_passDay 6 = .ok (.if_icmp .ge 40, 3) := by decide +kernel
theorem dX0_passDay_9 : decode cX0_passDay 9 = .ok (.iload_n 1, 1) := by decide +kernel
theorem dX0_passDay_10 : decode cX0_passDay 10 = .ok (.aload_n 0, 1) := by decide +kernel
theorem dX0_passDay_11 : decode cX0_passDay 11 = .ok (.iload_n 2, 1) := by decide +kernel
theorem dX0_passDay_12 : decode cX0_passDay 12 = .ok (.iconst 4, 1) := by decide +kernel
theorem dX0_passDay_13 : decode cX0_passDay 13 = .ok (.invokevirtual 58, 3) := by decide +kernel
theorem dX0_passDay_16 : decode cX0_passDay 16 = .ok (.iadd, 1) := by decide +kernel
theorem dX0_passDay_17 : decode cX0_passDay 17 = .ok (.istore_n 1, 1) := by decide +kernel
theorem dX0_passDay_18 : decode cX0_passDay 18 = .ok (.iconst 0, 1) := by decide +kernel
theorem dX0_passDay_19 : decode cX0_passDay 19 = .ok (.istore_n 3, 1) := by decide +kernel
theorem dX0_passDay_20 : decode cX0_passDay 20 = .ok (.iload_n 3, 1) := by decide +kernel
theorem dX0_passDay_21 : decode cX0_passDay 21 = .ok (.iconst 4, 1) := by decide +kernel
theorem dX0_passDay_22 : decode cX0_passDay 22 = .ok (.if_icmp .ge 18, 3) := by decide +kernel
theorem dX0_passDay_25 : decode cX0_passDay 25 = .ok (.iload_n 1, 1) := by decide +kernel
theorem dX0_passDay_26 : decode cX0_passDay 26 = .ok (.aload_n 0, 1) := by decide +kernel
theorem dX0_passDay_27 : decode cX0_passDay 27 = .ok (.iload_n 2, 1) := by decide +kernel
theorem dX0_passDay_28 : decode cX0_passDay 28 = .ok (.iload_n 3, 1) := by decide +kernel
theorem dX0_passDay_29 : decode cX0_passDay 29 = .ok (.invokevirtual 58, 3) := by decide +kernel
theorem dX0_passDay_32 : decode cX0_passDay 32 = .ok (.iadd, 1) := by decide +kernel
theorem dX0_passDay_33 : decode cX0_passDay 33 = .ok (.istore_n 1, 1) := by decide +kernel
theorem dX0_passDay_34 : decode cX0_passDay 34 = .ok (.iinc 3 1, 3) := by decide +kernel
theorem dX0_passDay_37 : decode cX0_passDay 37 = .ok (.goto (-17), 3) := by decide +kernel
theorem dX0_passDay_40 : decode cX0_passDay 40 = .ok (.iinc 2 1, 3) := by decide +kernel
theorem dX0_passDay_43 : decode cX0_passDay 43 = .ok (.goto (-39), 3) := by decide +kernel
theorem dX0_passDay_46 : decode cX0_passDay 46 = .ok (.iload_n 1, 1) := by decide +kernel
theorem dX0_passDay_47 : decode cX0_passDay 47 = .ok (.ireturn, 1) := by decide +kernel
theorem dX0_payWhole_0 : decode cX0_payWhole 0 = .ok (.aload_n 0, 1) := by decide +kernel
theorem dX0_payWhole_1 : decode cX0_payWhole 1 = .ok (.iload_n 1, 1) := by decide +kernel
theorem dX0_payWhole_2 : decode cX0_payWhole 2 = .ok (.iload_n 2, 1) := by decide +kernel
theorem dX0_payWhole_3 : decode cX0_payWhole 3 = .ok (.invokevirtual 36, 3) := by decide +kernel
theorem dX0_payWhole_6 : decode cX0_payWhole 6 = .ok (.istore_n 3, 1) := by decide +kernel
theorem dX0_payWhole_7 : decode cX0_payWhole 7 = .ok (.iload_n 3, 1) := by decide +kernel
theorem dX0_payWhole_8 : decode cX0_payWhole 8 = .ok (.ifCond .eq 12, 3) := by decide +kernel
theorem dX0_payWhole_11 : decode cX0_payWhole 11 = .ok (.aload_n 0, 1) := by decide +kernel
theorem dX0_payWhole_12 : decode cX0_payWhole 12 = .ok (.iload_n 1, 1) := by decide +kernel
theorem dX0_payWhole_13 : decode cX0_payWhole 13 = .ok (.invokevirtual 40, 3) := by decide +kernel
theorem dX0_payWhole_16 : decode cX0_payWhole 16 = .ok (.iload_n 3, 1) := by decide +kernel
theorem dX0_payWhole_17 : decode cX0_payWhole 17 = .ok (.if_icmp .ge 5, 3) := by decide +kernel
theorem dX0_payWhole_20 : decode cX0_payWhole 20 = .ok (.iconst 0, 1) := by decide +kernel
theorem dX0_payWhole_21 : decode cX0_payWhole 21 = .ok (.ireturn, 1) := by decide +kernel
theorem dX0_payWhole_22 : decode cX0_payWhole 22 = .ok (.aload_n 0, 1) := by decide +kernel
theorem dX0_payWhole_23 : decode cX0_payWhole 23 = .ok (.iload_n 1, 1) := by decide +kernel
theorem dX0_payWhole_24 : decode cX0_payWhole 24 = .ok (.iload_n 2, 1) := by decide +kernel
theorem dX0_payWhole_25 : decode cX0_payWhole 25 = .ok (.iconst 0, 1) := by decide +kernel
theorem dX0_payWhole_26 : decode cX0_payWhole 26 = .ok (.invokevirtual 61, 3) := by decide +kernel
theorem dX0_payWhole_29 : decode cX0_payWhole 29 = .ok (.aload_n 0, 1) := by decide +kernel
theorem dX0_payWhole_30 : decode cX0_payWhole 30 = .ok (.iload_n 1, 1) := by decide +kernel
theorem dX0_payWhole_31 : decode cX0_payWhole 31 = .ok (.aload_n 0, 1) := by decide +kernel
theorem dX0_payWhole_32 : decode cX0_payWhole 32 = .ok (.iload_n 1, 1) := by decide +kernel
theorem dX0_payWhole_33 : decode cX0_payWhole 33 = .ok (.invokevirtual 40, 3) := by decide +kernel
theorem dX0_payWhole_36 : decode cX0_payWhole 36 = .ok (.iload_n 3, 1) := by decide +kernel
theorem dX0_payWhole_37 : decode cX0_payWhole 37 = .ok (.isub, 1) := by decide +kernel
theorem dX0_payWhole_38 : decode cX0_payWhole 38 = .ok (.invokevirtual 65, 3) := by decide +kernel
theorem dX0_payWhole_41 : decode cX0_payWhole 41 = .ok (.iload_n 2, 1) := by decide +kernel
theorem dX0_payWhole_42 : decode cX0_payWhole 42 = .ok (.iconst 4, 1) := by decide +kernel
theorem dX0_payWhole_43 : decode cX0_payWhole 43 = .ok (.if_icmp .ne 16, 3) := by decide +kernel
theorem dX0_payWhole_46 : decode cX0_payWhole 46 = .ok (.aload_n 0, 1) := by decide +kernel
theorem dX0_payWhole_47 : decode cX0_payWhole 47 = .ok (.dup, 1) := by decide +kernel
theorem dX0_payWhole_48 : decode cX0_payWhole 48 = .ok (.getfield 18, 3) := by decide +kernel
theorem dX0_payWhole_51 : decode cX0_payWhole 51 = .ok (.iload_n 3, 1) := by decide +kernel
theorem dX0_payWhole_52 : decode cX0_payWhole 52 = .ok (.iadd, 1) := by decide +kernel
theorem dX0_payWhole_53 : decode cX0_payWhole 53 = .ok (.putfield 18, 3) := by decide +kernel
theorem dX0_payWhole_56 : decode cX0_payWhole 56 = .ok (.goto 15, 3) := by decide +kernel
theorem dX0_payWhole_59 : decode cX0_payWhole 59 = .ok (.aload_n 0, 1) := by decide +kernel
theorem dX0_payWhole_60 : decode cX0_payWhole 60 = .ok (.iload_n 2, 1) := by decide +kernel
theorem dX0_payWhole_61 : decode cX0_payWhole 61 = .ok (.aload_n 0, 1) := by decide +kernel
theorem dX0_payWhole_62 : decode cX0_payWhole 62 = .ok (.iload_n 2, 1) := by decide +kernel
theorem dX0_payWhole_63 : decode cX0_payWhole 63 = .ok (.invokevirtual 40, 3) := by decide +kernel
theorem dX0_payWhole_66 : decode cX0_payWhole 66 = .ok (.iload_n 3, 1) := by decide +kernel
theorem dX0_payWhole_67 : decode cX0_payWhole 67 = .ok (.iadd, 1) := by decide +kernel
theorem dX0_payWhole_68 : decode cX0_payWhole 68 = .ok (.invokevirtual 65, 3) := by decide +kernel
theorem dX0_payWhole_71 : decode cX0_payWhole 71 = .ok (.iconst 1, 1) := by decide +kernel
theorem dX0_payWhole_72 : decode cX0_payWhole 72 = .ok (.ireturn, 1) := by decide +kernel
theorem dX1_init_0 : decode cX1_init 0 = .ok (.aload_n 0, 1) := by decide +kernel
theorem dX1_init_1 : decode cX1_init 1 = .ok (.invokespecial 3, 3) := by decide +kernel
theorem dX1_init_4 : decode cX1_init 4 = .ok (.aload_n 0, 1) := by decide +kernel
theorem dX1_init_5 : decode cX1_init 5 = .ok (.iconst 4, 1) := by decide +kernel
theorem dX1_init_6 : decode cX1_init 6 = .ok (.newarray .int, 2) := by decide +kernel
theorem dX1_init_8 : decode cX1_init 8 = .ok (.putfield 9, 3) := by decide +kernel
theorem dX1_init_11 : decode cX1_init 11 = .ok (.aload_n 0, 1) := by decide +kernel
theorem dX1_init_12 : decode cX1_init 12 = .ok (.iconst 4, 1) := by decide +kernel
theorem dX1_init_13 : decode cX1_init 13 = .ok (.newarray .long, 2) := by decide +kernel
theorem dX1_init_15 : decode cX1_init 15 = .ok (.putfield 15, 3) := by decide +kernel
theorem dX1_init_18 : decode cX1_init 18 = .ok (.aload_n 0, 1) := by decide +kernel
theorem dX1_init_19 : decode cX1_init 19 = .ok (.bipush 16, 2) := by decide +kernel
theorem dX1_init_21 : decode cX1_init 21 = .ok (.newarray .long, 2) := by decide +kernel
theorem dX1_init_23 : decode cX1_init 23 = .ok (.putfield 19, 3) := by decide +kernel
theorem dX1_init_26 : decode cX1_init 26 = .ok (.aload_n 0, 1) := by decide +kernel
theorem dX1_init_27 : decode cX1_init 27 = .ok (.iconst 4, 1) := by decide +kernel
theorem dX1_init_28 : decode cX1_init 28 = .ok (.newarray .long, 2) := by decide +kernel
theorem dX1_init_30 : decode cX1_init 30 = .ok (.putfield 22, 3) := by decide +kernel
theorem dX1_init_33 : decode cX1_init 33 = .ok (.aload_n 0, 1) := by decide +kernel
theorem dX1_init_34 : decode cX1_init 34 = .ok (.iconst (-1), 1) := by decide +kernel
theorem dX1_init_35 : decode cX1_init 35 = .ok (.putfield 25, 3) := by decide +kernel
theorem dX1_init_38 : decode cX1_init 38 = .ok (.aload_n 0, 1) := by decide +kernel
theorem dX1_init_39 : decode cX1_init 39 = .ok (.iconst 0, 1) := by decide +kernel
theorem dX1_init_40 : decode cX1_init 40 = .ok (.putfield 29, 3) := by decide +kernel
theorem dX1_init_43 : decode cX1_init 43 = .ok (.aload_n 0, 1) := by decide +kernel
theorem dX1_init_44 : decode cX1_init 44 = .ok (.lconst 1, 1) := by decide +kernel
theorem dX1_init_45 : decode cX1_init 45 = .ok (.putfield 32, 3) := by decide +kernel
theorem dX1_init_48 : decode cX1_init 48 = .ok (.aload_n 0, 1) := by decide +kernel
theorem dX1_init_49 : decode cX1_init 49 = .ok (.aload_n 1, 1) := by decide +kernel
theorem dX1_init_50 : decode cX1_init 50 = .ok (.putfield 36, 3) := by decide +kernel
theorem dX1_init_53 : decode cX1_init 53 = .ok (.return_, 1) := by decide +kernel
theorem dX1_settle_0 : decode cX1_settle 0 = .ok (.aload_n 0, 1) := by decide +kernel
theorem dX1_settle_1 : decode cX1_settle 1 = .ok (.iload_n 1, 1) := by decide +kernel
theorem dX1_settle_2 : decode cX1_settle 2 = .ok (.putfield 25, 3) := by decide +kernel
theorem dX1_settle_5 : decode cX1_settle 5 = .ok (.aload_n 0, 1) := by decide +kernel
theorem dX1_settle_6 : decode cX1_settle 6 = .ok (.iconst 0, 1) := by decide +kernel
theorem dX1_settle_7 : decode cX1_settle 7 = .ok (.putfield 29, 3) := by decide +kernel
theorem dX1_settle_10 : decode cX1_settle 10 = .ok (.aload_n 0, 1) := by decide +kernel
theorem dX1_settle_11 : decode cX1_settle 11 = .ok (.lconst 1, 1) := by decide +kernel
theorem dX1_settle_12 : decode cX1_settle 12 = .ok (.putfield 32, 3) := by decide +kernel
theorem dX1_settle_15 : decode cX1_settle 15 = .ok (.iconst 0, 1) := by decide +kernel
theorem dX1_settle_16 : decode cX1_settle 16 = .ok (.istore_n 2, 1) := by decide +kernel
theorem dX1_settle_17 : decode cX1_settle 17 = .ok (.iload_n 2, 1) := by decide +kernel
theorem dX1_settle_18 : decode cX1_settle 18 = .ok (.iconst 4, 1) := by decide +kernel
theorem dX1_settle_19 : decode cX1_settle 19 = .ok (.if_icmp .ge 27, 3) := by decide +kernel
theorem dX1_settle_22 : decode cX1_settle 22 = .ok (.aload_n 0, 1) := by decide +kernel
theorem dX1_settle_23 : decode cX1_settle 23 = .ok (.getfield 9, 3) := by decide +kernel
theorem dX1_settle_26 : decode cX1_settle 26 = .ok (.iload_n 2, 1) := by decide +kernel
theorem dX1_settle_27 : decode cX1_settle 27 = .ok (.iconst 0, 1) := by decide +kernel
theorem dX1_settle_28 : decode cX1_settle 28 = .ok (.invokestatic 40, 3) := by decide +kernel
theorem dX1_settle_31 : decode cX1_settle 31 = .ok (.aload_n 0, 1) := by decide +kernel
theorem dX1_settle_32 : decode cX1_settle 32 = .ok (.getfield 15, 3) := by decide +kernel
theorem dX1_settle_35 : decode cX1_settle 35 = .ok (.iload_n 2, 1) := by decide +kernel
theorem dX1_settle_36 : decode cX1_settle 36 = .ok (.lconst 1, 1) := by decide +kernel
theorem dX1_settle_37 : decode cX1_settle 37 = .ok (.invokestatic 44, 3) := by decide +kernel
theorem dX1_settle_40 : decode cX1_settle 40 = .ok (.iinc 2 1, 3) := by decide +kernel
theorem dX1_settle_43 : decode cX1_settle 43 = .ok (.goto (-26), 3) := by decide +kernel
theorem dX1_settle_46 : decode cX1_settle 46 = .ok (.iconst 1, 1) := by decide +kernel
theorem dX1_settle_47 : decode cX1_settle 47 = .ok (.istore_n 2, 1) := by decide +kernel
theorem dX1_settle_48 : decode cX1_settle 48 = .ok (.iload_n 2, 1) := by decide +kernel
theorem dX1_settle_49 : decode cX1_settle 49 = .ok (.iconst 4, 1) := by decide +kernel
theorem dX1_settle_50 : decode cX1_settle 50 = .ok (.if_icmp .gt 29, 3) := by decide +kernel
theorem dX1_settle_53 : decode cX1_settle 53 = .ok (.aload_n 0, 1) := by decide +kernel
theorem dX1_settle_54 : decode cX1_settle 54 = .ok (.iload_n 2, 1) := by decide +kernel
theorem dX1_settle_55 : decode cX1_settle 55 = .ok (.invokevirtual 48, 3) := by decide +kernel
theorem dX1_settle_58 : decode cX1_settle 58 = .ok (.ifCond .ne 6, 3) := by decide +kernel
theorem dX1_settle_61 : decode cX1_settle 61 = .ok (.goto 18, 3) := by decide +kernel
theorem dX1_settle_64 : decode cX1_settle 64 = .ok (.aload_n 0, 1) := by decide +kernel
theorem dX1_settle_65 : decode cX1_settle 65 = .ok (.iload_n 2, 1) := by decide +kernel
theorem dX1_settle_66 : decode cX1_settle 66 = .ok (.putfield 29, 3) := by decide +kernel
theorem dX1_settle_69 : decode cX1_settle 69 = .ok (.aload_n 0, 1) := by decide +kernel
theorem dX1_settle_70 : decode cX1_settle 70 = .ok (.invokevirtual 52, 3) := by decide +kernel
theorem dX1_settle_73 : decode cX1_settle 73 = .ok (.iinc 2 1, 3) := by decide +kernel
theorem dX1_settle_76 : decode cX1_settle 76 = .ok (.goto (-28), 3) := by decide +kernel
theorem dX1_settle_79 : decode cX1_settle 79 = .ok (.return_, 1) := by decide +kernel
theorem dX1_anyFallIn_0 : decode cX1_anyFallIn 0 = .ok (.iconst 0, 1) := by decide +kernel
theorem dX1_anyFallIn_1 : decode cX1_anyFallIn 1 = .ok (.istore_n 2, 1) := by decide +kernel
theorem dX1_anyFallIn_2 : decode cX1_anyFallIn 2 = .ok (.iconst 0, 1) := by decide +kernel
theorem dX1_anyFallIn_3 : decode cX1_anyFallIn 3 = .ok (.istore_n 3, 1) := by decide +kernel
theorem dX1_anyFallIn_4 : decode cX1_anyFallIn 4 = .ok (.iload_n 3, 1) := by decide +kernel
theorem dX1_anyFallIn_5 : decode cX1_anyFallIn 5 = .ok (.iconst 4, 1) := by decide +kernel
theorem dX1_anyFallIn_6 : decode cX1_anyFallIn 6 = .ok (.if_icmp .ge 51, 3) := by decide +kernel
theorem dX1_anyFallIn_9 : decode cX1_anyFallIn 9 = .ok (.aload_n 0, 1) := by decide +kernel
theorem dX1_anyFallIn_10 : decode cX1_anyFallIn 10 = .ok (.iload_n 3, 1) := by decide +kernel
theorem dX1_anyFallIn_11 : decode cX1_anyFallIn 11 = .ok (.invokevirtual 55, 3) := by decide +kernel
theorem dX1_anyFallIn_14 : decode cX1_anyFallIn 14 = .ok (.ifCond .ne 37, 3) := by decide +kernel
theorem dX1_anyFallIn_17 : decode cX1_anyFallIn 17 = .ok (.aload_n 0, 1) := by decide +kernel
theorem dX1_anyFallIn_18 : decode cX1_anyFallIn 18 = .ok (.iload_n 3, 1) := by decide +kernel
theorem dX1_anyFallIn_19 : decode cX1_anyFallIn 19 = .ok (.invokevirtual 58, 3) := by decide +kernel
theorem dX1_anyFallIn_22 : decode cX1_anyFallIn 22 = .ok (.aload_n 0, 1) := by decide +kernel
theorem dX1_anyFallIn_23 : decode cX1_anyFallIn 23 = .ok (.getfield 32, 3) := by decide +kernel
theorem dX1_anyFallIn_26 : decode cX1_anyFallIn 26 = .ok (.aload_n 0, 1) := by decide +kernel
theorem dX1_anyFallIn_27 : decode cX1_anyFallIn 27 = .ok (.getfield 36, 3) := by decide +kernel
theorem dX1_anyFallIn_30 : decode cX1_anyFallIn 30 = .ok (.iload_n 3, 1) := by decide +kernel
theorem dX1_anyFallIn_31 : decode cX1_anyFallIn 31 = .ok (.invokevirtual 62, 3) := by decide +kernel
theorem dX1_anyFallIn_34 : decode cX1_anyFallIn 34 = .ok (.i2l, 1) := by decide +kernel
theorem dX1_anyFallIn_35 : decode cX1_anyFallIn 35 = .ok (.lmul, 1) := by decide +kernel
theorem dX1_anyFallIn_36 : decode cX1_anyFallIn 36 = .ok (.lcmp, 1) := by decide +kernel
theorem dX1_anyFallIn_37 : decode cX1_anyFallIn 37 = .ok (.ifCond .ge 14, 3) := by decide +kernel
theorem dX1_anyFallIn_40 : decode cX1_anyFallIn 40 = .ok (.aload_n 0, 1) := by decide +kernel
theorem dX1_anyFallIn_41 : decode cX1_anyFallIn 41 = .ok (.getfield 9, 3) := by decide +kernel
theorem dX1_anyFallIn_44 : decode cX1_anyFallIn 44 = .ok (.iload_n 3, 1) := by decide +kernel
theorem dX1_anyFallIn_45 : decode cX1_anyFallIn 45 = .ok (.iload_n 1, 1) := by decide +kernel
theorem dX1_anyFallIn_46 : decode cX1_anyFallIn 46 = .ok (.invokestatic 40, 3) := by decide +kernel
theorem dX1_anyFallIn_49 : decode cX1_anyFallIn 49 = .ok (.iconst 1, 1) := by decide +kernel
theorem dX1_anyFallIn_50 : decode cX1_anyFallIn 50 = .ok (.istore_n 2, 1) := by decide +kernel
theorem dX1_anyFallIn_51 : decode cX1_anyFallIn 51 = .ok (.iinc 3 1, 3) := by decide +kernel
theorem dX1_anyFallIn_54 : decode cX1_anyFallIn 54 = .ok (.goto (-50), 3) := by decide +kernel
theorem dX1_anyFallIn_57 : decode cX1_anyFallIn 57 = .ok (.iload_n 2, 1) := by decide +kernel
theorem dX1_anyFallIn_58 : decode cX1_anyFallIn 58 = .ok (.ireturn, 1) := by decide +kernel
theorem dX1_isFallen_0 : decode cX1_isFallen 0 = .ok (.aload_n 0, 1) := by decide +kernel
theorem dX1_isFallen_1 : decode cX1_isFallen 1 = .ok (.iload_n 1, 1) := by decide +kernel
theorem dX1_isFallen_2 : decode cX1_isFallen 2 = .ok (.invokevirtual 68, 3) := by decide +kernel
theorem dX1_isFallen_5 : decode cX1_isFallen 5 = .ok (.ifCond .le 7, 3) := by decide +kernel
theorem dX1_isFallen_8 : decode cX1_isFallen 8 = .ok (.iconst 1, 1) := by decide +kernel
theorem dX1_isFallen_9 : decode cX1_isFallen 9 = .ok (.goto 4, 3) := by decide +kernel
theorem dX1_isFallen_12 : decode cX1_isFallen 12 = .ok (.iconst 0, 1) := by decide +kernel
theorem dX1_isFallen_13 : decode cX1_isFallen 13 = .ok (.ireturn, 1) := by decide +kernel
theorem dX1_usableCoins_0 : decode cX1_usableCoins 0 = .ok (.iload_n 1, 1) := by decide +kernel
theorem dX1_usableCoins_1 : decode cX1_usableCoins 1 = .ok (.aload_n 0, 1) := by decide +kernel
theorem dX1_usableCoins_2 : decode cX1_usableCoins 2 = .ok (.getfield 25, 3) := by decide +kernel
theorem dX1_usableCoins_5 : decode cX1_usableCoins 5 = .ok (.if_icmp .ne 7, 3) := by decide +kernel
theorem dX1_usableCoins_8 : decode cX1_usableCoins 8 = .ok (.iconst 0, 1) := by decide +kernel
theorem dX1_usableCoins_9 : decode cX1_usableCoins 9 = .ok (.goto 11, 3) := by decide +kernel
theorem dX1_usableCoins_12 : decode cX1_usableCoins 12 = .ok (.aload_n 0, 1) := by decide +kernel
theorem dX1_usableCoins_13 : decode cX1_usableCoins 13 = .ok (.getfield 36, 3) := by decide +kernel
theorem dX1_usableCoins_16 : decode cX1_usableCoins 16 = .ok (.iload_n 1, 1) := by decide +kernel
theorem dX1_usableCoins_17 : decode cX1_usableCoins 17 = .ok (.invokevirtual 71, 3) := by decide +kernel
theorem dX1_usableCoins_20 : decode cX1_usableCoins 20 = .ok (.ireturn, 1) := by decide +kernel
theorem dX1_solveShares_0 : decode cX1_solveShares 0 = .ok (.iconst 0, 1) := by decide +kernel
theorem dX1_solveShares_1 : decode cX1_solveShares 1 = .ok (.istore_n 1, 1) := by decide +kernel
theorem dX1_solveShares_2 : decode cX1_solveShares 2 = .ok (.iload_n 1, 1) := by decide +kernel
theorem dX1_solveShares_3 : decode cX1_solveShares 3 = .ok (.iconst 4, 1) := by decide +kernel
theorem dX1_solveShares_4 : decode cX1_solveShares 4 = .ok (.if_icmp .ge 14, 3) := by decide +kernel
theorem dX1_solveShares_7 : decode cX1_solveShares 7 = .ok (.aload_n 0, 1) := by decide +kernel
theorem dX1_solveShares_8 : decode cX1_solveShares 8 = .ok (.iload_n 1, 1) := by decide +kernel
theorem dX1_solveShares_9 : decode cX1_solveShares 9 = .ok (.invokevirtual 74, 3) := by decide +kernel
theorem dX1_solveShares_12 : decode cX1_solveShares 12 = .ok (.iinc 1 1, 3) := by decide +kernel
theorem dX1_solveShares_15 : decode cX1_solveShares 15 = .ok (.goto (-13), 3) := by decide +kernel
theorem dX1_solveShares_18 : decode cX1_solveShares 18 = .ok (.aload_n 0, 1) := by decide +kernel
theorem dX1_solveShares_19 : decode cX1_solveShares 19 = .ok (.aload_n 0, 1) := by decide +kernel
theorem dX1_solveShares_20 : decode cX1_solveShares 20 = .ok (.iconst (-1), 1) := by decide +kernel
theorem dX1_solveShares_21 : decode cX1_solveShares 21 = .ok (.invokevirtual 78, 3) := by decide +kernel
theorem dX1_solveShares_24 : decode cX1_solveShares 24 = .ok (.putfield 32, 3) := by decide +kernel
theorem dX1_solveShares_27 : decode cX1_solveShares 27 = .ok (.iconst 0, 1) := by decide +kernel
theorem dX1_solveShares_28 : decode cX1_solveShares 28 = .ok (.istore_n 1, 1) := by decide +kernel
theorem dX1_solveShares_29 : decode cX1_solveShares 29 = .ok (.iload_n 1, 1) := by decide +kernel
theorem dX1_solveShares_30 : decode cX1_solveShares 30 = .ok (.iconst 4, 1) := by decide +kernel
theorem dX1_solveShares_31 : decode cX1_solveShares 31 = .ok (.if_icmp .ge 22, 3) := by decide +kernel
theorem dX1_solveShares_34 : decode cX1_solveShares 34 = .ok (.aload_n 0, 1) := by decide +kernel
theorem dX1_solveShares_35 : decode cX1_solveShares 35 = .ok (.getfield 15, 3) := by decide +kernel
theorem dX1_solveShares_38 : decode cX1_solveShares 38 = .ok (.iload_n 1, 1) := by decide +kernel
theorem dX1_solveShares_39 : decode cX1_solveShares 39 = .ok (.aload_n 0, 1) := by decide +kernel
theorem dX1_solveShares_40 : decode cX1_solveShares 40 = .ok (.iload_n 1, 1) := by decide +kernel
theorem dX1_solveShares_41 : decode cX1_solveShares 41 = .ok (.invokevirtual 78, 3) := by decide +kernel
theorem dX1_solveShares_44 : decode cX1_solveShares 44 = .ok (.invokestatic 44, 3) := by decide +kernel
theorem dX1_solveShares_47 : decode cX1_solveShares 47 = .ok (.iinc 1 1, 3) := by decide +kernel
theorem dX1_solveShares_50 : decode cX1_solveShares 50 = .ok (.goto (-21), 3) := by decide +kernel
theorem dX1_solveShares_53 : decode cX1_solveShares 53 = .ok (.return_, 1) := by decide +kernel
theorem dX1_writeEquation_0 : decode cX1_writeEquation 0 = .ok (.aload_n 0, 1) := by decide +kernel
theorem dX1_writeEquation_1 : decode cX1_writeEquation 1 = .ok (.iload_n 1, 1) := by decide +kernel
theorem dX1_writeEquation_2 : decode cX1_writeEquation 2 = .ok (.invokevirtual 55, 3) := by decide +kernel
theorem dX1_writeEquation_5 : decode cX1_writeEquation 5 = .ok (.istore_n 2, 1) := by decide +kernel
theorem dX1_writeEquation_6 : decode cX1_writeEquation 6 = .ok (.bipush 10, 2) := by decide +kernel
theorem dX1_writeEquation_8 : decode cX1_writeEquation 8 = .ok (.aload_n 0, 1) := by decide +kernel
theorem dX1_writeEquation_9 : decode cX1_writeEquation 9 = .ok (.getfield 36, 3) := by decide +kernel
theorem dX1_writeEquation_12 : decode cX1_writeEquation 12 = .ok (.getfield 81, 3) := by decide +kernel
theorem dX1_writeEquation_15 : decode cX1_writeEquation 15 = .ok (.isub, 1) := by decide +kernel
theorem dX1_writeEquation_16 : decode cX1_writeEquation 16 = .ok (.istore_n 3, 1) := by decide +kernel
theorem dX1_writeEquation_17 : decode cX1_writeEquation 17 = .ok (.iconst 0, 1) := by decide +kernel
theorem dX1_writeEquation_18 : decode cX1_writeEquation 18 = .ok (.istore 4, 2) := by decide +kernel
theorem dX1_writeEquation_20 : decode cX1_writeEquation 20 = .ok (.iload 4, 2) := by decide +kernel
theorem dX1_writeEquation_22 : decode cX1_writeEquation 22 = .ok (.iconst 4, 1) := by decide +kernel
theorem dX1_writeEquation_23 : decode cX1_writeEquation 23 = .ok (.if_icmp .ge 44, 3) := by decide +kernel
theorem dX1_writeEquation_26 : decode cX1_writeEquation 26 = .ok (.aload_n 0, 1) := by decide +kernel
theorem dX1_writeEquation_27 : decode cX1_writeEquation 27 = .ok (.getfield 19, 3) := by decide +kernel
theorem dX1_writeEquation_30 : decode cX1_writeEquation 30 = .ok (.iload_n 1, 1) := by decide +kernel
theorem dX1_writeEquation_31 : decode cX1_writeEquation 31 = .ok (.iconst 4, 1) := by decide +kernel
theorem dX1_writeEquation_32 : decode cX1_writeEquation 32 = .ok (.imul, 1) := by decide +kernel
theorem dX1_writeEquation_33 : decode cX1_writeEquation 33 = .ok (.iload 4, 2) := by decide +kernel
theorem dX1_writeEquation_35 : decode cX1_writeEquation 35 = .ok (.iadd, 1) := by decide +kernel
theorem dX1_writeEquation_36 : decode cX1_writeEquation 36 = .ok (.iload_n 2, 1) := by decide +kernel
theorem dX1_writeEquation_37 : decode cX1_writeEquation 37 = .ok (.ifCond .eq 20, 3) := by decide +kernel
theorem dX1_writeEquation_40 : decode cX1_writeEquation 40 = .ok (.iload_n 3, 1) := by decide +kernel
theorem dX1_writeEquation_41 : decode cX1_writeEquation 41 = .ok (.ineg, 1) := by decide +kernel
theorem dX1_writeEquation_42 : decode cX1_writeEquation 42 = .ok (.aload_n 0, 1) := by decide +kernel
theorem dX1_writeEquation_43 : decode cX1_writeEquation 43 = .ok (.getfield 36, 3) := by decide +kernel
theorem dX1_writeEquation_46 : decode cX1_writeEquation 46 = .ok (.iload 4, 2) := by decide +kernel
theorem dX1_writeEquation_48 : decode cX1_writeEquation 48 = .ok (.iload_n 1, 1) := by decide +kernel
theorem dX1_writeEquation_49 : decode cX1_writeEquation 49 = .ok (.invokevirtual 84, 3) := by decide +kernel
theorem dX1_writeEquation_52 : decode cX1_writeEquation 52 = .ok (.imul, 1) := by decide +kernel
theorem dX1_writeEquation_53 : decode cX1_writeEquation 53 = .ok (.i2l, 1) := by decide +kernel
theorem dX1_writeEquation_54 : decode cX1_writeEquation 54 = .ok (.goto 4, 3) := by decide +kernel
theorem dX1_writeEquation_57 : decode cX1_writeEquation 57 = .ok (.lconst 0, 1) := by decide +kernel
theorem dX1_writeEquation_58 : decode cX1_writeEquation 58 = .ok (.invokestatic 44, 3) := by decide +kernel
theorem dX1_writeEquation_61 : decode cX1_writeEquation 61 = .ok (.iinc 4 1, 3) := by decide +kernel
theorem dX1_writeEquation_64 : decode cX1_writeEquation 64 = .ok (.goto (-44), 3) := by decide +kernel
theorem dX1_writeEquation_67 : decode cX1_writeEquation 67 = .ok (.iload_n 1, 1) := by decide +kernel
theorem dX1_writeEquation_68 : decode cX1_writeEquation 68 = .ok (.iconst 4, 1) := by decide +kernel
theorem dX1_writeEquation_69 : decode cX1_writeEquation 69 = .ok (.imul, 1) := by decide +kernel
theorem dX1_writeEquation_70 : decode cX1_writeEquation 70 = .ok (.iload_n 1, 1) := by decide +kernel
theorem dX1_writeEquation_71 : decode cX1_writeEquation 71 = .ok (.iadd, 1) := by decide +kernel
theorem dX1_writeEquation_72 : decode cX1_writeEquation 72 = .ok (.istore 4, 2) := by decide +kernel
theorem dX1_writeEquation_74 : decode cX1_writeEquation 74 = .ok (.aload_n 0, 1) := by decide +kernel
theorem dX1_writeEquation_75 : decode cX1_writeEquation 75 = .ok (.getfield 19, 3) := by decide +kernel
theorem dX1_writeEquation_78 : decode cX1_writeEquation 78 = .ok (.iload 4, 2) := by decide +kernel
theorem dX1_writeEquation_80 : decode cX1_writeEquation 80 = .ok (.iload_n 2, 1) := by decide +kernel
theorem dX1_writeEquation_81 : decode cX1_writeEquation 81 = .ok (.ifCond .eq 18, 3) := by decide +kernel
theorem dX1_writeEquation_84 : decode cX1_writeEquation 84 = .ok (.bipush 10, 2) := by decide +kernel
theorem dX1_writeEquation_86 : decode cX1_writeEquation 86 = .ok (.aload_n 0, 1) := by decide +kernel
theorem dX1_writeEquation_87 : decode cX1_writeEquation 87 = .ok (.getfield 36, 3) := by decide +kernel
theorem dX1_writeEquation_90 : decode cX1_writeEquation 90 = .ok (.iload_n 1, 1) := by decide +kernel
theorem dX1_writeEquation_91 : decode cX1_writeEquation 91 = .ok (.invokevirtual 62, 3) := by decide +kernel
theorem dX1_writeEquation_94 : decode cX1_writeEquation 94 = .ok (.imul, 1) := by decide +kernel
theorem dX1_writeEquation_95 : decode cX1_writeEquation 95 = .ok (.i2l, 1) := by decide +kernel
theorem dX1_writeEquation_96 : decode cX1_writeEquation 96 = .ok (.goto 4, 3) := by decide +kernel
theorem dX1_writeEquation_99 : decode cX1_writeEquation 99 = .ok (.lconst 1, 1) := by decide +kernel
theorem dX1_writeEquation_100 : decode cX1_writeEquation 100 = .ok (.invokestatic 44, 3) := by decide +kernel
theorem dX1_writeEquation_103 : decode cX1_writeEquation 103 = .ok (.aload_n 0, 1) := by decide +kernel
theorem dX1_writeEquation_104 : decode cX1_writeEquation 104 = .ok (.getfield 22, 3) := by decide +kernel
theorem dX1_writeEquation_107 : decode cX1_writeEquation 107 = .ok (.iload_n 1, 1) := by decide +kernel
theorem dX1_writeEquation_108 : decode cX1_writeEquation 108 = .ok (.iload_n 2, 1) := by decide +kernel
theorem dX1_writeEquation_109 : decode cX1_writeEquation 109 = .ok (.ifCond .eq 14, 3) := by decide +kernel
theorem dX1_writeEquation_112 : decode cX1_writeEquation 112 = .ok (.iload_n 3, 1) := by decide +kernel
theorem dX1_writeEquation_113 : decode cX1_writeEquation 113 = .ok (.aload_n 0, 1) := by decide +kernel
theorem dX1_writeEquation_114 : decode cX1_writeEquation 114 = .ok (.iload_n 1, 1) := by decide +kernel
theorem dX1_writeEquation_115 : decode cX1_writeEquation 115 = .ok (.invokevirtual 88, 3) := by decide +kernel
theorem dX1_writeEquation_118 : decode cX1_writeEquation 118 = .ok (.imul, 1) := by decide +kernel
theorem dX1_writeEquation_119 : decode cX1_writeEquation 119 = .ok (.i2l, 1) := by decide +kernel
theorem dX1_writeEquation_120 : decode cX1_writeEquation 120 = .ok (.goto 4, 3) := by decide +kernel
theorem dX1_writeEquation_123 : decode cX1_writeEquation 123 = .ok (.lconst 1, 1) := by decide +kernel
theorem dX1_writeEquation_124 : decode cX1_writeEquation 124 = .ok (.invokestatic 44, 3) := by decide +kernel
theorem dX1_writeEquation_127 : decode cX1_writeEquation 127 = .ok (.return_, 1) := by decide +kernel
theorem dX1_determinant_0 : decode cX1_determinant 0 = .ok (.aload_n 0, 1) := by decide +kernel
theorem dX1_determinant_1 : decode cX1_determinant 1 = .ok (.iconst 0, 1) := by decide +kernel
theorem dX1_determinant_2 : decode cX1_determinant 2 = .ok (.iconst 0, 1) := by decide +kernel
theorem dX1_determinant_3 : decode cX1_determinant 3 = .ok (.iconst 1, 1) := by decide +kernel
theorem dX1_determinant_4 : decode cX1_determinant 4 = .ok (.iload_n 1, 1) := by decide +kernel
theorem dX1_determinant_5 : decode cX1_determinant 5 = .ok (.invokevirtual 91, 3) := by decide +kernel
theorem dX1_determinant_8 : decode cX1_determinant 8 = .ok (.aload_n 0, 1) := by decide +kernel
theorem dX1_determinant_9 : decode cX1_determinant 9 = .ok (.iconst 2, 1) := by decide +kernel
theorem dX1_determinant_10 : decode cX1_determinant 10 = .ok (.iconst 2, 1) := by decide +kernel
theorem dX1_determinant_11 : decode cX1_determinant 11 = .ok (.iconst 3, 1) := by decide +kernel
theorem dX1_determinant_12 : decode cX1_determinant 12 = .ok (.iload_n 1, 1) := by decide +kernel
theorem dX1_determinant_13 : decode cX1_determinant 13 = .ok (.invokevirtual 91, 3) := by decide +kernel
theorem dX1_determinant_16 : decode cX1_determinant 16 = .ok (.lmul, 1) := by decide +kernel
theorem dX1_determinant_17 : decode cX1_determinant 17 = .ok (.aload_n 0, 1) := by decide +kernel
theorem dX1_determinant_18 : decode cX1_determinant 18 = .ok (.iconst 0, 1) := by decide +kernel
theorem dX1_determinant_19 : decode cX1_determinant 19 = .ok (.iconst 0, 1) := by decide +kernel
theorem dX1_determinant_20 : decode cX1_determinant 20 = .ok (.iconst 2, 1) := by decide +kernel
theorem dX1_determinant_21 : decode cX1_determinant 21 = .ok (.iload_n 1, 1) := by decide +kernel
theorem dX1_determinant_22 : decode cX1_determinant 22 = .ok (.invokevirtual 91, 3) := by decide +kernel
theorem dX1_determinant_25 : decode cX1_determinant 25 = .ok (.aload_n 0, 1) := by decide +kernel
theorem dX1_determinant_26 : decode cX1_determinant 26 = .ok (.iconst 2, 1) := by decide +kernel
theorem dX1_determinant_27 : decode cX1_determinant 27 = .ok (.iconst 1, 1) := by decide +kernel
theorem dX1_determinant_28 : decode cX1_determinant 28 = .ok (.iconst 3, 1) := by decide +kernel
theorem dX1_determinant_29 : decode cX1_determinant 29 = .ok (.iload_n 1, 1) := by decide +kernel
theorem dX1_determinant_30 : decode cX1_determinant 30 = .ok (.invokevirtual 91, 3) := by decide +kernel
theorem dX1_determinant_33 : decode cX1_determinant 33 = .ok (.lmul, 1) := by decide +kernel
theorem dX1_determinant_34 : decode cX1_determinant 34 = .ok (.lsub, 1) := by decide +kernel
theorem dX1_determinant_35 : decode cX1_determinant 35 = .ok (.aload_n 0, 1) := by decide +kernel
theorem dX1_determinant_36 : decode cX1_determinant 36 = .ok (.iconst 0, 1) := by decide +kernel
theorem dX1_determinant_37 : decode cX1_determinant 37 = .ok (.iconst 0, 1) := by decide +kernel
theorem dX1_determinant_38 : decode cX1_determinant 38 = .ok (.iconst 3, 1) := by decide +kernel
theorem dX1_determinant_39 : decode cX1_determinant 39 = .ok (.iload_n 1, 1) := by decide +kernel
theorem dX1_determinant_40 : decode cX1_determinant 40 = .ok (.invokevirtual 91, 3) := by decide +kernel
theorem dX1_determinant_43 : decode cX1_determinant 43 = .ok (.aload_n 0, 1) := by decide +kernel
theorem dX1_determinant_44 : decode cX1_determinant 44 = .ok (.iconst 2, 1) := by decide +kernel
theorem dX1_determinant_45 : decode cX1_determinant 45 = .ok (.iconst 1, 1) := by decide +kernel
theorem dX1_determinant_46 : decode cX1_determinant 46 = .ok (.iconst 2, 1) := by decide +kernel
theorem dX1_determinant_47 : decode cX1_determinant 47 = .ok (.iload_n 1, 1) := by decide +kernel
theorem dX1_determinant_48 : decode cX1_determinant 48 = .ok (.invokevirtual 91, 3) := by decide +kernel
theorem dX1_determinant_51 : decode cX1_determinant 51 = .ok (.lmul, 1) := by decide +kernel
theorem dX1_determinant_52 : decode cX1_determinant 52 = .ok (.ladd, 1) := by decide +kernel
theorem dX1_determinant_53 : decode cX1_determinant 53 = .ok (.aload_n 0, 1) := by decide +kernel
theorem dX1_determinant_54 : decode cX1_determinant 54 = .ok (.iconst 0, 1) := by decide +kernel
theorem dX1_determinant_55 : decode cX1_determinant 55 = .ok (.iconst 1, 1) := by decide +kernel
theorem dX1_determinant_56 : decode cX1_determinant 56 = .ok (.iconst 2, 1) := by decide +kernel
theorem dX1_determinant_57 : decode cX1_determinant 57 = .ok (.iload_n 1, 1) := by decide +kernel
theorem dX1_determinant_58 : decode cX1_determinant 58 = .ok (.invokevirtual 91, 3) := by decide +kernel
theorem dX1_determinant_61 : decode cX1_determinant 61 = .ok (.aload_n 0, 1) := by decide +kernel
theorem dX1_determinant_62 : decode cX1_determinant 62 = .ok (.iconst 2, 1) := by decide +kernel
theorem dX1_determinant_63 : decode cX1_determinant 63 = .ok (.iconst 0, 1) := by decide +kernel
theorem dX1_determinant_64 : decode cX1_determinant 64 = .ok (.iconst 3, 1) := by decide +kernel
theorem dX1_determinant_65 : decode cX1_determinant 65 = .ok (.iload_n 1, 1) := by decide +kernel
theorem dX1_determinant_66 : decode cX1_determinant 66 = .ok (.invokevirtual 91, 3) := by decide +kernel
theorem dX1_determinant_69 : decode cX1_determinant 69 = .ok (.lmul, 1) := by decide +kernel
theorem dX1_determinant_70 : decode cX1_determinant 70 = .ok (.ladd, 1) := by decide +kernel
theorem dX1_determinant_71 : decode cX1_determinant 71 = .ok (.aload_n 0, 1) := by decide +kernel
theorem dX1_determinant_72 : decode cX1_determinant 72 = .ok (.iconst 0, 1) := by decide +kernel
theorem dX1_determinant_73 : decode cX1_determinant 73 = .ok (.iconst 1, 1) := by decide +kernel
theorem dX1_determinant_74 : decode cX1_determinant 74 = .ok (.iconst 3, 1) := by decide +kernel
theorem dX1_determinant_75 : decode cX1_determinant 75 = .ok (.iload_n 1, 1) := by decide +kernel
theorem dX1_determinant_76 : decode cX1_determinant 76 = .ok (.invokevirtual 91, 3) := by decide +kernel
theorem dX1_determinant_79 : decode cX1_determinant 79 = .ok (.aload_n 0, 1) := by decide +kernel
theorem dX1_determinant_80 : decode cX1_determinant 80 = .ok (.iconst 2, 1) := by decide +kernel
theorem dX1_determinant_81 : decode cX1_determinant 81 = .ok (.iconst 0, 1) := by decide +kernel
theorem dX1_determinant_82 : decode cX1_determinant 82 = .ok (.iconst 2, 1) := by decide +kernel
theorem dX1_determinant_83 : decode cX1_determinant 83 = .ok (.iload_n 1, 1) := by decide +kernel
theorem dX1_determinant_84 : decode cX1_determinant 84 = .ok (.invokevirtual 91, 3) := by decide +kernel
theorem dX1_determinant_87 : decode cX1_determinant 87 = .ok (.lmul, 1) := by decide +kernel
theorem dX1_determinant_88 : decode cX1_determinant 88 = .ok (.lsub, 1) := by decide +kernel
theorem dX1_determinant_89 : decode cX1_determinant 89 = .ok (.aload_n 0, 1) := by decide +kernel
theorem dX1_determinant_90 : decode cX1_determinant 90 = .ok (.iconst 0, 1) := by decide +kernel
theorem dX1_determinant_91 : decode cX1_determinant 91 = .ok (.iconst 2, 1) := by decide +kernel
theorem dX1_determinant_92 : decode cX1_determinant 92 = .ok (.iconst 3, 1) := by decide +kernel
theorem dX1_determinant_93 : decode cX1_determinant 93 = .ok (.iload_n 1, 1) := by decide +kernel
theorem dX1_determinant_94 : decode cX1_determinant 94 = .ok (.invokevirtual 91, 3) := by decide +kernel
theorem dX1_determinant_97 : decode cX1_determinant 97 = .ok (.aload_n 0, 1) := by decide +kernel
theorem dX1_determinant_98 : decode cX1_determinant 98 = .ok (.iconst 2, 1) := by decide +kernel
theorem dX1_determinant_99 : decode cX1_determinant 99 = .ok (.iconst 0, 1) := by decide +kernel
theorem dX1_determinant_100 : decode cX1_determinant 100 = .ok (.iconst 1, 1) := by decide +kernel
theorem dX1_determinant_101 : decode cX1_determinant 101 = .ok (.iload_n 1, 1) := by decide +kernel
theorem dX1_determinant_102 : decode cX1_determinant 102 = .ok (.invokevirtual 91, 3) := by decide +kernel
theorem dX1_determinant_105 : decode cX1_determinant 105 = .ok (.lmul, 1) := by decide +kernel
theorem dX1_determinant_106 : decode cX1_determinant 106 = .ok (.ladd, 1) := by decide +kernel
theorem dX1_determinant_107 : decode cX1_determinant 107 = .ok (.lreturn, 1) := by decide +kernel
theorem dX1_minor_0 : decode cX1_minor 0 = .ok (.aload_n 0, 1) := by decide +kernel
theorem dX1_minor_1 : decode cX1_minor 1 = .ok (.iload_n 1, 1) := by decide +kernel
theorem dX1_minor_2 : decode cX1_minor 2 = .ok (.iload_n 2, 1) := by decide +kernel
theorem dX1_minor_3 : decode cX1_minor 3 = .ok (.iload 4, 2) := by decide +kernel
theorem dX1_minor_5 : decode cX1_minor 5 = .ok (.invokevirtual 95, 3) := by decide +kernel
theorem dX1_minor_8 : decode cX1_minor 8 = .ok (.aload_n 0, 1) := by decide +kernel
theorem dX1_minor_9 : decode cX1_minor 9 = .ok (.iload_n 1, 1) := by decide +kernel
theorem dX1_minor_10 : decode cX1_minor 10 = .ok (.iconst 1, 1) := by decide +kernel
theorem dX1_minor_11 : decode cX1_minor 11 = .ok (.iadd, 1) := by decide +kernel
theorem dX1_minor_12 : decode cX1_minor 12 = .ok (.iload_n 3, 1) := by decide +kernel
theorem dX1_minor_13 : decode cX1_minor 13 = .ok (.iload 4, 2) := by decide +kernel
theorem dX1_minor_15 : decode cX1_minor 15 = .ok (.invokevirtual 95, 3) := by decide +kernel
theorem dX1_minor_18 : decode cX1_minor 18 = .ok (.lmul, 1) := by decide +kernel
theorem dX1_minor_19 : decode cX1_minor 19 = .ok (.aload_n 0, 1) := by decide +kernel
theorem dX1_minor_20 : decode cX1_minor 20 = .ok (.iload_n 1, 1) := by decide +kernel
theorem dX1_minor_21 : decode cX1_minor 21 = .ok (.iload_n 3, 1) := by decide +kernel
theorem dX1_minor_22 : decode cX1_minor 22 = .ok (.iload 4, 2) := by decide +kernel
theorem dX1_minor_24 : decode cX1_minor 24 = .ok (.invokevirtual 95, 3) := by decide +kernel
theorem dX1_minor_27 : decode cX1_minor 27 = .ok (.aload_n 0, 1) := by decide +kernel
theorem dX1_minor_28 : decode cX1_minor 28 = .ok (.iload_n 1, 1) := by decide +kernel
theorem dX1_minor_29 : decode cX1_minor 29 = .ok (.iconst 1, 1) := by decide +kernel
theorem dX1_minor_30 : decode cX1_minor 30 = .ok (.iadd, 1) := by decide +kernel
theorem dX1_minor_31 : decode cX1_minor 31 = .ok (.iload_n 2, 1) := by decide +kernel
theorem dX1_minor_32 : decode cX1_minor 32 = .ok (.iload 4, 2) := by decide +kernel
theorem dX1_minor_34 : decode cX1_minor 34 = .ok (.invokevirtual 95, 3) := by decide +kernel
theorem dX1_minor_37 : decode cX1_minor 37 = .ok (.lmul, 1) := by decide +kernel
theorem dX1_minor_38 : decode cX1_minor 38 = .ok (.lsub, 1) := by decide +kernel
theorem dX1_minor_39 : decode cX1_minor 39 = .ok (.lreturn, 1) := by decide +kernel
theorem dX1_entry_0 : decode cX1_entry 0 = .ok (.iload_n 2, 1) := by decide +kernel
theorem dX1_entry_1 : decode cX1_entry 1 = .ok (.iload_n 3, 1) := by decide +kernel
theorem dX1_entry_2 : decode cX1_entry 2 = .ok (.if_icmp .ne 14, 3) := by decide +kernel
theorem dX1_entry_5 : decode cX1_entry 5 = .ok (.aload_n 0, 1) := by decide +kernel
theorem dX1_entry_6 : decode cX1_entry 6 = .ok (.getfield 22, 3) := by decide +kernel
theorem dX1_entry_9 : decode cX1_entry 9 = .ok (.iload_n 1, 1) := by decide +kernel
theorem dX1_entry_10 : decode cX1_entry 10 = .ok (.invokestatic 99, 3) := by decide +kernel
theorem dX1_entry_13 : decode cX1_entry 13 = .ok (.goto 15, 3) := by decide +kernel
theorem dX1_entry_16 : decode cX1_entry 16 = .ok (.aload_n 0, 1) := by decide +kernel
theorem dX1_entry_17 : decode cX1_entry 17 = .ok (.getfield 19, 3) := by decide +kernel
theorem dX1_entry_20 : decode cX1_entry 20 = .ok (.iload_n 1, 1) := by decide +kernel
theorem dX1_entry_21 : decode cX1_entry 21 = .ok (.iconst 4, 1) := by decide +kernel
theorem dX1_entry_22 : decode cX1_entry 22 = .ok (.imul, 1) := by decide +kernel
theorem dX1_entry_23 : decode cX1_entry 23 = .ok (.iload_n 2, 1) := by decide +kernel
theorem dX1_entry_24 : decode cX1_entry 24 = .ok (.iadd, 1) := by decide +kernel
theorem dX1_entry_25 : decode cX1_entry 25 = .ok (.invokestatic 99, 3) := by decide +kernel
theorem dX1_entry_28 : decode cX1_entry 28 = .ok (.lreturn, 1) := by decide +kernel
theorem dX1_roundOfFall_0 : decode cX1_roundOfFall 0 = .ok (.aload_n 0, 1) := by decide +kernel
theorem dX1_roundOfFall_1 : decode cX1_roundOfFall 1 = .ok (.getfield 9, 3) := by decide +kernel
theorem dX1_roundOfFall_4 : decode cX1_roundOfFall 4 = .ok (.iload_n 1, 1) := by decide +kernel
theorem dX1_roundOfFall_5 : decode cX1_roundOfFall 5 = .ok (.invokestatic 103, 3) := by decide +kernel
theorem dX1_roundOfFall_8 : decode cX1_roundOfFall 8 = .ok (.ireturn, 1) := by decide +kernel
theorem dX1_fallenCount_0 : decode cX1_fallenCount 0 = .ok (.iconst 0, 1) := by decide +kernel
theorem dX1_fallenCount_1 : decode cX1_fallenCount 1 = .ok (.istore_n 1, 1) := by decide +kernel
theorem dX1_fallenCount_2 : decode cX1_fallenCount 2 = .ok (.iconst 0, 1) := by decide +kernel
theorem dX1_fallenCount_3 : decode cX1_fallenCount 3 = .ok (.istore_n 2, 1) := by decide +kernel
theorem dX1_fallenCount_4 : decode cX1_fallenCount 4 = .ok (.iload_n 2, 1) := by decide +kernel
theorem dX1_fallenCount_5 : decode cX1_fallenCount 5 = .ok (.iconst 4, 1) := by decide +kernel
theorem dX1_fallenCount_6 : decode cX1_fallenCount 6 = .ok (.if_icmp .ge 20, 3) := by decide +kernel
theorem dX1_fallenCount_9 : decode cX1_fallenCount 9 = .ok (.aload_n 0, 1) := by decide +kernel
theorem dX1_fallenCount_10 : decode cX1_fallenCount 10 = .ok (.iload_n 2, 1) := by decide +kernel
theorem dX1_fallenCount_11 : decode cX1_fallenCount 11 = .ok (.invokevirtual 55, 3) := by decide +kernel
theorem dX1_fallenCount_14 : decode cX1_fallenCount 14 = .ok (.ifCond .eq 6, 3) := by decide +kernel
theorem dX1_fallenCount_17 : decode cX1_fallenCount 17 = .ok (.iinc 1 1, 3) := by decide +kernel
theorem dX1_fallenCount_20 : decode cX1_fallenCount 20 = .ok (.iinc 2 1, 3) := by decide +kernel
theorem dX1_fallenCount_23 : decode cX1_fallenCount 23 = .ok (.goto (-19), 3) := by decide +kernel
theorem dX1_fallenCount_26 : decode cX1_fallenCount 26 = .ok (.iload_n 1, 1) := by decide +kernel
theorem dX1_fallenCount_27 : decode cX1_fallenCount 27 = .ok (.ireturn, 1) := by decide +kernel
theorem dX1_shareAbove_0 : decode cX1_shareAbove 0 = .ok (.aload_n 0, 1) := by decide +kernel
theorem dX1_shareAbove_1 : decode cX1_shareAbove 1 = .ok (.getfield 15, 3) := by decide +kernel
theorem dX1_shareAbove_4 : decode cX1_shareAbove 4 = .ok (.iload_n 1, 1) := by decide +kernel
theorem dX1_shareAbove_5 : decode cX1_shareAbove 5 = .ok (.invokestatic 99, 3) := by decide +kernel
theorem dX1_shareAbove_8 : decode cX1_shareAbove 8 = .ok (.lreturn, 1) := by decide +kernel
theorem dX1_grossAbove_0 : decode cX1_grossAbove 0 = .ok (.aload_n 0, 1) := by decide +kernel
theorem dX1_grossAbove_1 : decode cX1_grossAbove 1 = .ok (.getfield 32, 3) := by decide +kernel
theorem dX1_grossAbove_4 : decode cX1_grossAbove 4 = .ok (.aload_n 0, 1) := by decide +kernel
theorem dX1_grossAbove_5 : decode cX1_grossAbove 5 = .ok (.iload_n 1, 1) := by decide +kernel
theorem dX1_grossAbove_6 : decode cX1_grossAbove 6 = .ok (.invokevirtual 88, 3) := by decide +kernel
theorem dX1_grossAbove_9 : decode cX1_grossAbove 9 = .ok (.i2l, 1) := by decide +kernel
theorem dX1_grossAbove_10 : decode cX1_grossAbove 10 = .ok (.lmul, 1) := by decide +kernel
theorem dX1_grossAbove_11 : decode cX1_grossAbove 11 = .ok (.lstore_n 2, 1) := by decide +kernel
theorem dX1_grossAbove_12 : decode cX1_grossAbove 12 = .ok (.iconst 0, 1) := by decide +kernel
theorem dX1_grossAbove_13 : decode cX1_grossAbove 13 = .ok (.istore 4, 2) := by decide +kernel
theorem dX1_grossAbove_15 : decode cX1_grossAbove 15 = .ok (.iload 4, 2) := by decide +kernel
theorem dX1_grossAbove_17 : decode cX1_grossAbove 17 = .ok (.iconst 4, 1) := by decide +kernel
theorem dX1_grossAbove_18 : decode cX1_grossAbove 18 = .ok (.if_icmp .ge 30, 3) := by decide +kernel
theorem dX1_grossAbove_21 : decode cX1_grossAbove 21 = .ok (.lload_n 2, 1) := by decide +kernel
theorem dX1_grossAbove_22 : decode cX1_grossAbove 22 = .ok (.aload_n 0, 1) := by decide +kernel
theorem dX1_grossAbove_23 : decode cX1_grossAbove 23 = .ok (.iload 4, 2) := by decide +kernel
theorem dX1_grossAbove_25 : decode cX1_grossAbove 25 = .ok (.invokevirtual 107, 3) := by decide +kernel
theorem dX1_grossAbove_28 : decode cX1_grossAbove 28 = .ok (.aload_n 0, 1) := by decide +kernel
theorem dX1_grossAbove_29 : decode cX1_grossAbove 29 = .ok (.getfield 36, 3) := by decide +kernel
theorem dX1_grossAbove_32 : decode cX1_grossAbove 32 = .ok (.iload 4, 2) := by decide +kernel
theorem dX1_grossAbove_34 : decode cX1_grossAbove 34 = .ok (.iload_n 1, 1) := by decide +kernel
theorem dX1_grossAbove_35 : decode cX1_grossAbove 35 = .ok (.invokevirtual 84, 3) := by decide +kernel
theorem dX1_grossAbove_38 : decode cX1_grossAbove 38 = .ok (.i2l, 1) := by decide +kernel
theorem dX1_grossAbove_39 : decode cX1_grossAbove 39 = .ok (.lmul, 1) := by decide +kernel
theorem dX1_grossAbove_40 : decode cX1_grossAbove 40 = .ok (.ladd, 1) := by decide +kernel
theorem dX1_grossAbove_41 : decode cX1_grossAbove 41 = .ok (.lstore_n 2, 1) := by decide +kernel
theorem dX1_grossAbove_42 : decode cX1_grossAbove 42 = .ok (.iinc 4 1, 3) := by decide +kernel
theorem dX1_grossAbove_45 : decode cX1_grossAbove 45 = .ok (.goto (-30), 3) := by decide +kernel
theorem dX1_grossAbove_48 : decode cX1_grossAbove 48 = .ok (.lload_n 2, 1) := by decide +kernel
theorem dX1_grossAbove_49 : decode cX1_grossAbove 49 = .ok (.lreturn, 1) := by decide +kernel
theorem dX1_leftAbove_0 : decode cX1_leftAbove 0 = .ok (.aload_n 0, 1) := by decide +kernel
theorem dX1_leftAbove_1 : decode cX1_leftAbove 1 = .ok (.iload_n 1, 1) := by decide +kernel
theorem dX1_leftAbove_2 : decode cX1_leftAbove 2 = .ok (.invokevirtual 55, 3) := by decide +kernel
theorem dX1_leftAbove_5 : decode cX1_leftAbove 5 = .ok (.ifCond .eq 7, 3) := by decide +kernel
theorem dX1_leftAbove_8 : decode cX1_leftAbove 8 = .ok (.lconst 0, 1) := by decide +kernel
theorem dX1_leftAbove_9 : decode cX1_leftAbove 9 = .ok (.goto 23, 3) := by decide +kernel
theorem dX1_leftAbove_12 : decode cX1_leftAbove 12 = .ok (.aload_n 0, 1) := by decide +kernel
theorem dX1_leftAbove_13 : decode cX1_leftAbove 13 = .ok (.iload_n 1, 1) := by decide +kernel
theorem dX1_leftAbove_14 : decode cX1_leftAbove 14 = .ok (.invokevirtual 58, 3) := by decide +kernel
theorem dX1_leftAbove_17 : decode cX1_leftAbove 17 = .ok (.aload_n 0, 1) := by decide +kernel
theorem dX1_leftAbove_18 : decode cX1_leftAbove 18 = .ok (.getfield 32, 3) := by decide +kernel
theorem dX1_leftAbove_21 : decode cX1_leftAbove 21 = .ok (.aload_n 0, 1) := by decide +kernel
theorem dX1_leftAbove_22 : decode cX1_leftAbove 22 = .ok (.getfield 36, 3) := by decide +kernel
theorem dX1_leftAbove_25 : decode cX1_leftAbove 25 = .ok (.iload_n 1, 1) := by decide +kernel
theorem dX1_leftAbove_26 : decode cX1_leftAbove 26 = .ok (.invokevirtual 62, 3) := by decide +kernel
theorem dX1_leftAbove_29 : decode cX1_leftAbove 29 = .ok (.i2l, 1) := by decide +kernel
theorem dX1_leftAbove_30 : decode cX1_leftAbove 30 = .ok (.lmul, 1) := by decide +kernel
theorem dX1_leftAbove_31 : decode cX1_leftAbove 31 = .ok (.lsub, 1) := by decide +kernel
theorem dX1_leftAbove_32 : decode cX1_leftAbove 32 = .ok (.lreturn, 1) := by decide +kernel
theorem dX1_lostAbove_0 : decode cX1_lostAbove 0 = .ok (.lconst 0, 1) := by decide +kernel
theorem dX1_lostAbove_1 : decode cX1_lostAbove 1 = .ok (.lstore_n 1, 1) := by decide +kernel
theorem dX1_lostAbove_2 : decode cX1_lostAbove 2 = .ok (.iconst 0, 1) := by decide +kernel
theorem dX1_lostAbove_3 : decode cX1_lostAbove 3 = .ok (.istore_n 3, 1) := by decide +kernel
theorem dX1_lostAbove_4 : decode cX1_lostAbove 4 = .ok (.iload_n 3, 1) := by decide +kernel
theorem dX1_lostAbove_5 : decode cX1_lostAbove 5 = .ok (.iconst 4, 1) := by decide +kernel
theorem dX1_lostAbove_6 : decode cX1_lostAbove 6 = .ok (.if_icmp .ge 34, 3) := by decide +kernel
theorem dX1_lostAbove_9 : decode cX1_lostAbove 9 = .ok (.aload_n 0, 1) := by decide +kernel
theorem dX1_lostAbove_10 : decode cX1_lostAbove 10 = .ok (.iload_n 3, 1) := by decide +kernel
theorem dX1_lostAbove_11 : decode cX1_lostAbove 11 = .ok (.invokevirtual 55, 3) := by decide +kernel
theorem dX1_lostAbove_14 : decode cX1_lostAbove 14 = .ok (.ifCond .eq 20, 3) := by decide +kernel
theorem dX1_lostAbove_17 : decode cX1_lostAbove 17 = .ok (.lload_n 1, 1) := by decide +kernel
theorem dX1_lostAbove_18 : decode cX1_lostAbove 18 = .ok (.aload_n 0, 1) := by decide +kernel
theorem dX1_lostAbove_19 : decode cX1_lostAbove 19 = .ok (.iload_n 3, 1) := by decide +kernel
theorem dX1_lostAbove_20 : decode cX1_lostAbove 20 = .ok (.invokevirtual 58, 3) := by decide +kernel
theorem dX1_lostAbove_23 : decode cX1_lostAbove 23 = .ok (.aload_n 0, 1) := by decide +kernel
theorem dX1_lostAbove_24 : decode cX1_lostAbove 24 = .ok (.getfield 36, 3) := by decide +kernel
theorem dX1_lostAbove_27 : decode cX1_lostAbove 27 = .ok (.getfield 81, 3) := by decide +kernel
theorem dX1_lostAbove_30 : decode cX1_lostAbove 30 = .ok (.i2l, 1) := by decide +kernel
theorem dX1_lostAbove_31 : decode cX1_lostAbove 31 = .ok (.lmul, 1) := by decide +kernel
theorem dX1_lostAbove_32 : decode cX1_lostAbove 32 = .ok (.ladd, 1) := by decide +kernel
theorem dX1_lostAbove_33 : decode cX1_lostAbove 33 = .ok (.lstore_n 1, 1) := by decide +kernel
theorem dX1_lostAbove_34 : decode cX1_lostAbove 34 = .ok (.iinc 3 1, 3) := by decide +kernel
theorem dX1_lostAbove_37 : decode cX1_lostAbove 37 = .ok (.goto (-33), 3) := by decide +kernel
theorem dX1_lostAbove_40 : decode cX1_lostAbove 40 = .ok (.lload_n 1, 1) := by decide +kernel
theorem dX1_lostAbove_41 : decode cX1_lostAbove 41 = .ok (.lreturn, 1) := by decide +kernel
theorem dX2_init_0 : decode cX2_init 0 = .ok (.aload_n 0, 1) := by decide +kernel
theorem dX2_init_1 : decode cX2_init 1 = .ok (.invokespecial 3, 3) := by decide +kernel
theorem dX2_init_4 : decode cX2_init 4 = .ok (.aload_n 0, 1) := by decide +kernel
theorem dX2_init_5 : decode cX2_init 5 = .ok (.aload_n 1, 1) := by decide +kernel
theorem dX2_init_6 : decode cX2_init 6 = .ok (.putfield 9, 3) := by decide +kernel
theorem dX2_init_9 : decode cX2_init 9 = .ok (.return_, 1) := by decide +kernel
theorem dX2_howMany_0 : decode cX2_howMany 0 = .ok (.iconst 0, 1) := by decide +kernel
theorem dX2_howMany_1 : decode cX2_howMany 1 = .ok (.istore_n 1, 1) := by decide +kernel
theorem dX2_howMany_2 : decode cX2_howMany 2 = .ok (.iconst 0, 1) := by decide +kernel
theorem dX2_howMany_3 : decode cX2_howMany 3 = .ok (.istore_n 2, 1) := by decide +kernel
theorem dX2_howMany_4 : decode cX2_howMany 4 = .ok (.iload_n 2, 1) := by decide +kernel
theorem dX2_howMany_5 : decode cX2_howMany 5 = .ok (.getstatic 15, 3) := by decide +kernel
theorem dX2_howMany_8 : decode cX2_howMany 8 = .ok (.arraylength, 1) := by decide +kernel
theorem dX2_howMany_9 : decode cX2_howMany 9 = .ok (.if_icmp .ge 26, 3) := by decide +kernel
theorem dX2_howMany_12 : decode cX2_howMany 12 = .ok (.aload_n 0, 1) := by decide +kernel
theorem dX2_howMany_13 : decode cX2_howMany 13 = .ok (.getstatic 15, 3) := by decide +kernel
theorem dX2_howMany_16 : decode cX2_howMany 16 = .ok (.iload_n 2, 1) := by decide +kernel
theorem dX2_howMany_17 : decode cX2_howMany 17 = .ok (.invokestatic 19, 3) := by decide +kernel
theorem dX2_howMany_20 : decode cX2_howMany 20 = .ok (.invokevirtual 23, 3) := by decide +kernel
theorem dX2_howMany_23 : decode cX2_howMany 23 = .ok (.ifCond .le 6, 3) := by decide +kernel
theorem dX2_howMany_26 : decode cX2_howMany 26 = .ok (.iinc 1 1, 3) := by decide +kernel
theorem dX2_howMany_29 : decode cX2_howMany 29 = .ok (.iinc 2 1, 3) := by decide +kernel
theorem dX2_howMany_32 : decode cX2_howMany 32 = .ok (.goto (-28), 3) := by decide +kernel
theorem dX2_howMany_35 : decode cX2_howMany 35 = .ok (.iload_n 1, 1) := by decide +kernel
theorem dX2_howMany_36 : decode cX2_howMany 36 = .ok (.ireturn, 1) := by decide +kernel
theorem dX2_figuresOf_0 : decode cX2_figuresOf 0 = .ok (.iconst 0, 1) := by decide +kernel
theorem dX2_figuresOf_1 : decode cX2_figuresOf 1 = .ok (.istore_n 2, 1) := by decide +kernel
theorem dX2_figuresOf_2 : decode cX2_figuresOf 2 = .ok (.iconst 0, 1) := by decide +kernel
theorem dX2_figuresOf_3 : decode cX2_figuresOf 3 = .ok (.istore_n 3, 1) := by decide +kernel
theorem dX2_figuresOf_4 : decode cX2_figuresOf 4 = .ok (.iload_n 3, 1) := by decide +kernel
theorem dX2_figuresOf_5 : decode cX2_figuresOf 5 = .ok (.getstatic 15, 3) := by decide +kernel
theorem dX2_figuresOf_8 : decode cX2_figuresOf 8 = .ok (.arraylength, 1) := by decide +kernel
theorem dX2_figuresOf_9 : decode cX2_figuresOf 9 = .ok (.if_icmp .ge 38, 3) := by decide +kernel
theorem dX2_figuresOf_12 : decode cX2_figuresOf 12 = .ok (.getstatic 15, 3) := by decide +kernel
theorem dX2_figuresOf_15 : decode cX2_figuresOf 15 = .ok (.iload_n 3, 1) := by decide +kernel
theorem dX2_figuresOf_16 : decode cX2_figuresOf 16 = .ok (.invokestatic 19, 3) := by decide +kernel
theorem dX2_figuresOf_19 : decode cX2_figuresOf 19 = .ok (.istore 4, 2) := by decide +kernel
theorem dX2_figuresOf_21 : decode cX2_figuresOf 21 = .ok (.aload_n 0, 1) := by decide +kernel
theorem dX2_figuresOf_22 : decode cX2_figuresOf 22 = .ok (.iload 4, 2) := by decide +kernel
theorem dX2_figuresOf_24 : decode cX2_figuresOf 24 = .ok (.invokevirtual 23, 3) := by decide +kernel
theorem dX2_figuresOf_27 : decode cX2_figuresOf 27 = .ok (.ifCond .le 14, 3) := by decide +kernel
theorem dX2_figuresOf_30 : decode cX2_figuresOf 30 = .ok (.iload_n 2, 1) := by decide +kernel
theorem dX2_figuresOf_31 : decode cX2_figuresOf 31 = .ok (.iload_n 1, 1) := by decide +kernel
theorem dX2_figuresOf_32 : decode cX2_figuresOf 32 = .ok (.if_icmp .ne 6, 3) := by decide +kernel
theorem dX2_figuresOf_35 : decode cX2_figuresOf 35 = .ok (.iload 4, 2) := by decide +kernel
theorem dX2_figuresOf_37 : decode cX2_figuresOf 37 = .ok (.ireturn, 1) := by decide +kernel
theorem dX2_figuresOf_38 : decode cX2_figuresOf 38 = .ok (.iinc 2 1, 3) := by decide +kernel
theorem dX2_figuresOf_41 : decode cX2_figuresOf 41 = .ok (.iinc 3 1, 3) := by decide +kernel
theorem dX2_figuresOf_44 : decode cX2_figuresOf 44 = .ok (.goto (-40), 3) := by decide +kernel
theorem dX2_figuresOf_47 : decode cX2_figuresOf 47 = .ok (.iconst (-1), 1) := by decide +kernel
theorem dX2_figuresOf_48 : decode cX2_figuresOf 48 = .ok (.ireturn, 1) := by decide +kernel
theorem dX2_sizeOf_0 : decode cX2_sizeOf 0 = .ok (.iload_n 1, 1) := by decide +kernel
theorem dX2_sizeOf_1 : decode cX2_sizeOf 1 = .ok (.bipush 100, 2) := by decide +kernel
theorem dX2_sizeOf_3 : decode cX2_sizeOf 3 = .ok (.if_icmp .ge 7, 3) := by decide +kernel
theorem dX2_sizeOf_6 : decode cX2_sizeOf 6 = .ok (.iconst 2, 1) := by decide +kernel
theorem dX2_sizeOf_7 : decode cX2_sizeOf 7 = .ok (.goto 15, 3) := by decide +kernel
theorem dX2_sizeOf_10 : decode cX2_sizeOf 10 = .ok (.iload_n 1, 1) := by decide +kernel
theorem dX2_sizeOf_11 : decode cX2_sizeOf 11 = .ok (.sipush 1000, 3) := by decide +kernel
theorem dX2_sizeOf_14 : decode cX2_sizeOf 14 = .ok (.if_icmp .ge 7, 3) := by decide +kernel
theorem dX2_sizeOf_17 : decode cX2_sizeOf 17 = .ok (.iconst 3, 1) := by decide +kernel
theorem dX2_sizeOf_18 : decode cX2_sizeOf 18 = .ok (.goto 4, 3) := by decide +kernel
theorem dX2_sizeOf_21 : decode cX2_sizeOf 21 = .ok (.iconst 4, 1) := by decide +kernel
theorem dX2_sizeOf_22 : decode cX2_sizeOf 22 = .ok (.ireturn, 1) := by decide +kernel
theorem dX2_firstOf_0 : decode cX2_firstOf 0 = .ok (.iload_n 1, 1) := by decide +kernel
theorem dX2_firstOf_1 : decode cX2_firstOf 1 = .ok (.bipush 100, 2) := by decide +kernel
theorem dX2_firstOf_3 : decode cX2_firstOf 3 = .ok (.if_icmp .ge 10, 3) := by decide +kernel
theorem dX2_firstOf_6 : decode cX2_firstOf 6 = .ok (.iload_n 1, 1) := by decide +kernel
theorem dX2_firstOf_7 : decode cX2_firstOf 7 = .ok (.bipush 10, 2) := by decide +kernel
theorem dX2_firstOf_9 : decode cX2_firstOf 9 = .ok (.idiv, 1) := by decide +kernel
theorem dX2_firstOf_10 : decode cX2_firstOf 10 = .ok (.goto 22, 3) := by decide +kernel
theorem dX2_firstOf_13 : decode cX2_firstOf 13 = .ok (.iload_n 1, 1) := by decide +kernel
theorem dX2_firstOf_14 : decode cX2_firstOf 14 = .ok (.sipush 1000, 3) := by decide +kernel
theorem dX2_firstOf_17 : decode cX2_firstOf 17 = .ok (.if_icmp .ge 10, 3) := by decide +kernel
theorem dX2_firstOf_20 : decode cX2_firstOf 20 = .ok (.iload_n 1, 1) := by decide +kernel
theorem dX2_firstOf_21 : decode cX2_firstOf 21 = .ok (.bipush 100, 2) := by decide +kernel
theorem dX2_firstOf_23 : decode cX2_firstOf 23 = .ok (.idiv, 1) := by decide +kernel
theorem dX2_firstOf_24 : decode cX2_firstOf 24 = .ok (.goto 8, 3) := by decide +kernel
theorem dX2_firstOf_27 : decode cX2_firstOf 27 = .ok (.iload_n 1, 1) := by decide +kernel
theorem dX2_firstOf_28 : decode cX2_firstOf 28 = .ok (.sipush 1000, 3) := by decide +kernel
theorem dX2_firstOf_31 : decode cX2_firstOf 31 = .ok (.idiv, 1) := by decide +kernel
theorem dX2_firstOf_32 : decode cX2_firstOf 32 = .ok (.iconst 1, 1) := by decide +kernel
theorem dX2_firstOf_33 : decode cX2_firstOf 33 = .ok (.isub, 1) := by decide +kernel
theorem dX2_firstOf_34 : decode cX2_firstOf 34 = .ok (.ireturn, 1) := by decide +kernel
theorem dX2_leastDebt_0 : decode cX2_leastDebt 0 = .ok (.bipush 50, 2) := by decide +kernel
theorem dX2_leastDebt_2 : decode cX2_leastDebt 2 = .ok (.istore_n 2, 1) := by decide +kernel
theorem dX2_leastDebt_3 : decode cX2_leastDebt 3 = .ok (.aload_n 0, 1) := by decide +kernel
theorem dX2_leastDebt_4 : decode cX2_leastDebt 4 = .ok (.iload_n 1, 1) := by decide +kernel
theorem dX2_leastDebt_5 : decode cX2_leastDebt 5 = .ok (.invokevirtual 27, 3) := by decide +kernel
theorem dX2_leastDebt_8 : decode cX2_leastDebt 8 = .ok (.istore_n 3, 1) := by decide +kernel
theorem dX2_leastDebt_9 : decode cX2_leastDebt 9 = .ok (.iload_n 1, 1) := by decide +kernel
theorem dX2_leastDebt_10 : decode cX2_leastDebt 10 = .ok (.istore 4, 2) := by decide +kernel
theorem dX2_leastDebt_12 : decode cX2_leastDebt 12 = .ok (.iconst 0, 1) := by decide +kernel
theorem dX2_leastDebt_13 : decode cX2_leastDebt 13 = .ok (.istore 5, 2) := by decide +kernel
theorem dX2_leastDebt_15 : decode cX2_leastDebt 15 = .ok (.iload 5, 2) := by decide +kernel
theorem dX2_leastDebt_17 : decode cX2_leastDebt 17 = .ok (.aload_n 0, 1) := by decide +kernel
theorem dX2_leastDebt_18 : decode cX2_leastDebt 18 = .ok (.iload_n 1, 1) := by decide +kernel
theorem dX2_leastDebt_19 : decode cX2_leastDebt 19 = .ok (.invokevirtual 30, 3) := by decide +kernel
theorem dX2_leastDebt_22 : decode cX2_leastDebt 22 = .ok (.if_icmp .ge 43, 3) := by decide +kernel
theorem dX2_leastDebt_25 : decode cX2_leastDebt 25 = .ok (.iload 4, 2) := by decide +kernel
theorem dX2_leastDebt_27 : decode cX2_leastDebt 27 = .ok (.bipush 10, 2) := by decide +kernel
theorem dX2_leastDebt_29 : decode cX2_leastDebt 29 = .ok (.irem, 1) := by decide +kernel
theorem dX2_leastDebt_30 : decode cX2_leastDebt 30 = .ok (.iconst 1, 1) := by decide +kernel
theorem dX2_leastDebt_31 : decode cX2_leastDebt 31 = .ok (.isub, 1) := by decide +kernel
theorem dX2_leastDebt_32 : decode cX2_leastDebt 32 = .ok (.istore 6, 2) := by decide +kernel
theorem dX2_leastDebt_34 : decode cX2_leastDebt 34 = .ok (.iload_n 2, 1) := by decide +kernel
theorem dX2_leastDebt_35 : decode cX2_leastDebt 35 = .ok (.aload_n 0, 1) := by decide +kernel
theorem dX2_leastDebt_36 : decode cX2_leastDebt 36 = .ok (.getfield 9, 3) := by decide +kernel
theorem dX2_leastDebt_39 : decode cX2_leastDebt 39 = .ok (.iload 6, 2) := by decide +kernel
theorem dX2_leastDebt_41 : decode cX2_leastDebt 41 = .ok (.iload_n 3, 1) := by decide +kernel
theorem dX2_leastDebt_42 : decode cX2_leastDebt 42 = .ok (.invokevirtual 33, 3) := by decide +kernel
theorem dX2_leastDebt_45 : decode cX2_leastDebt 45 = .ok (.invokestatic 39, 3) := by decide +kernel
theorem dX2_leastDebt_48 : decode cX2_leastDebt 48 = .ok (.istore_n 2, 1) := by decide +kernel
theorem dX2_leastDebt_49 : decode cX2_leastDebt 49 = .ok (.iload 6, 2) := by decide +kernel
theorem dX2_leastDebt_51 : decode cX2_leastDebt 51 = .ok (.istore_n 3, 1) := by decide +kernel
theorem dX2_leastDebt_52 : decode cX2_leastDebt 52 = .ok (.iload 4, 2) := by decide +kernel
theorem dX2_leastDebt_54 : decode cX2_leastDebt 54 = .ok (.bipush 10, 2) := by decide +kernel
theorem dX2_leastDebt_56 : decode cX2_leastDebt 56 = .ok (.idiv, 1) := by decide +kernel
theorem dX2_leastDebt_57 : decode cX2_leastDebt 57 = .ok (.istore 4, 2) := by decide +kernel
theorem dX2_leastDebt_59 : decode cX2_leastDebt 59 = .ok (.iinc 5 1, 3) := by decide +kernel
theorem dX2_leastDebt_62 : decode cX2_leastDebt 62 = .ok (.goto (-47), 3) := by decide +kernel
theorem dX2_leastDebt_65 : decode cX2_leastDebt 65 = .ok (.iload_n 2, 1) := by decide +kernel
theorem dX2_leastDebt_66 : decode cX2_leastDebt 66 = .ok (.ireturn, 1) := by decide +kernel
theorem dX2_lessen_0 : decode cX2_lessen 0 = .ok (.aload_n 0, 1) := by decide +kernel
theorem dX2_lessen_1 : decode cX2_lessen 1 = .ok (.iload_n 1, 1) := by decide +kernel
theorem dX2_lessen_2 : decode cX2_lessen 2 = .ok (.invokevirtual 23, 3) := by decide +kernel
theorem dX2_lessen_5 : decode cX2_lessen 5 = .ok (.istore_n 2, 1) := by decide +kernel
theorem dX2_lessen_6 : decode cX2_lessen 6 = .ok (.aload_n 0, 1) := by decide +kernel
theorem dX2_lessen_7 : decode cX2_lessen 7 = .ok (.iload_n 1, 1) := by decide +kernel
theorem dX2_lessen_8 : decode cX2_lessen 8 = .ok (.invokevirtual 27, 3) := by decide +kernel
theorem dX2_lessen_11 : decode cX2_lessen 11 = .ok (.istore_n 3, 1) := by decide +kernel
theorem dX2_lessen_12 : decode cX2_lessen 12 = .ok (.iload_n 1, 1) := by decide +kernel
theorem dX2_lessen_13 : decode cX2_lessen 13 = .ok (.istore 4, 2) := by decide +kernel
theorem dX2_lessen_15 : decode cX2_lessen 15 = .ok (.iconst 0, 1) := by decide +kernel
theorem dX2_lessen_16 : decode cX2_lessen 16 = .ok (.istore 5, 2) := by decide +kernel
theorem dX2_lessen_18 : decode cX2_lessen 18 = .ok (.iload 5, 2) := by decide +kernel
theorem dX2_lessen_20 : decode cX2_lessen 20 = .ok (.aload_n 0, 1) := by decide +kernel
theorem dX2_lessen_21 : decode cX2_lessen 21 = .ok (.iload_n 1, 1) := by decide +kernel
theorem dX2_lessen_22 : decode cX2_lessen 22 = .ok (.invokevirtual 30, 3) := by decide +kernel
theorem dX2_lessen_25 : decode cX2_lessen 25 = .ok (.if_icmp .ge 50, 3) := by decide +kernel
theorem dX2_lessen_28 : decode cX2_lessen 28 = .ok (.iload 4, 2) := by decide +kernel
theorem dX2_lessen_30 : decode cX2_lessen 30 = .ok (.bipush 10, 2) := by decide +kernel
theorem dX2_lessen_32 : decode cX2_lessen 32 = .ok (.irem, 1) := by decide +kernel
theorem dX2_lessen_33 : decode cX2_lessen 33 = .ok (.iconst 1, 1) := by decide +kernel
theorem dX2_lessen_34 : decode cX2_lessen 34 = .ok (.isub, 1) := by decide +kernel
theorem dX2_lessen_35 : decode cX2_lessen 35 = .ok (.istore 6, 2) := by decide +kernel
theorem dX2_lessen_37 : decode cX2_lessen 37 = .ok (.aload_n 0, 1) := by decide +kernel
theorem dX2_lessen_38 : decode cX2_lessen 38 = .ok (.getfield 9, 3) := by decide +kernel
theorem dX2_lessen_41 : decode cX2_lessen 41 = .ok (.iload 6, 2) := by decide +kernel
theorem dX2_lessen_43 : decode cX2_lessen 43 = .ok (.iload_n 3, 1) := by decide +kernel
theorem dX2_lessen_44 : decode cX2_lessen 44 = .ok (.aload_n 0, 1) := by decide +kernel
theorem dX2_lessen_45 : decode cX2_lessen 45 = .ok (.getfield 9, 3) := by decide +kernel
theorem dX2_lessen_48 : decode cX2_lessen 48 = .ok (.iload 6, 2) := by decide +kernel
theorem dX2_lessen_50 : decode cX2_lessen 50 = .ok (.iload_n 3, 1) := by decide +kernel
theorem dX2_lessen_51 : decode cX2_lessen 51 = .ok (.invokevirtual 33, 3) := by decide +kernel
theorem dX2_lessen_54 : decode cX2_lessen 54 = .ok (.iload_n 2, 1) := by decide +kernel
theorem dX2_lessen_55 : decode cX2_lessen 55 = .ok (.isub, 1) := by decide +kernel
theorem dX2_lessen_56 : decode cX2_lessen 56 = .ok (.invokevirtual 44, 3) := by decide +kernel
theorem dX2_lessen_59 : decode cX2_lessen 59 = .ok (.iload 6, 2) := by decide +kernel
theorem dX2_lessen_61 : decode cX2_lessen 61 = .ok (.istore_n 3, 1) := by decide +kernel
theorem dX2_lessen_62 : decode cX2_lessen 62 = .ok (.iload 4, 2) := by decide +kernel
theorem dX2_lessen_64 : decode cX2_lessen 64 = .ok (.bipush 10, 2) := by decide +kernel
theorem dX2_lessen_66 : decode cX2_lessen 66 = .ok (.idiv, 1) := by decide +kernel
theorem dX2_lessen_67 : decode cX2_lessen 67 = .ok (.istore 4, 2) := by decide +kernel
theorem dX2_lessen_69 : decode cX2_lessen 69 = .ok (.iinc 5 1, 3) := by decide +kernel
theorem dX2_lessen_72 : decode cX2_lessen 72 = .ok (.goto (-54), 3) := by decide +kernel
theorem dX2_lessen_75 : decode cX2_lessen 75 = .ok (.iload_n 2, 1) := by decide +kernel
theorem dX2_lessen_76 : decode cX2_lessen 76 = .ok (.ireturn, 1) := by decide +kernel
end
section
theorem dX3_init_0 : decode cX3_init 0 = .ok (.aload_n 0, 1) := by decide +kernel
theorem dX3_init_1 : decode cX3_init 1 = .ok (.invokespecial 1, 3) := by decide +kernel
theorem dX3_init_4 : decode cX3_init 4 = .ok (.aload_n 0, 1) := by decide +kernel
theorem dX3_init_5 : decode cX3_init 5 = .ok (.new 7, 3) := by decide +kernel
theorem dX3_init_8 : decode cX3_init 8 = .ok (.dup, 1) := by decide +kernel
theorem dX3_init_9 : decode cX3_init 9 = .ok (.invokespecial 9, 3) := by decide +kernel
theorem dX3_init_12 : decode cX3_init 12 = .ok (.putfield 10, 3) := by decide +kernel
theorem dX3_init_15 : decode cX3_init 15 = .ok (.aload_n 0, 1) := by decide +kernel
theorem dX3_init_16 : decode cX3_init 16 = .ok (.new 16, 3) := by decide +kernel
theorem dX3_init_19 : decode cX3_init 19 = .ok (.dup, 1) := by decide +kernel
theorem dX3_init_20 : decode cX3_init 20 = .ok (.aload_n 0, 1) := by decide +kernel
theorem dX3_init_21 : decode cX3_init 21 = .ok (.getfield 10, 3) := by decide +kernel
theorem dX3_init_24 : decode cX3_init 24 = .ok (.invokespecial 18, 3) := by decide +kernel
theorem dX3_init_27 : decode cX3_init 27 = .ok (.putfield 21, 3) := by decide +kernel
theorem dX3_init_30 : decode cX3_init 30 = .ok (.aload_n 0, 1) := by decide +kernel
theorem dX3_init_31 : decode cX3_init 31 = .ok (.new 25, 3) := by decide +kernel
theorem dX3_init_34 : decode cX3_init 34 = .ok (.dup, 1) := by decide +kernel
theorem dX3_init_35 : decode cX3_init 35 = .ok (.aload_n 0, 1) := by decide +kernel
theorem dX3_init_36 : decode cX3_init 36 = .ok (.getfield 10, 3) := by decide +kernel
theorem dX3_init_39 : decode cX3_init 39 = .ok (.invokespecial 27, 3) := by decide +kernel
theorem dX3_init_42 : decode cX3_init 42 = .ok (.putfield 28, 3) := by decide +kernel
theorem dX3_init_45 : decode cX3_init 45 = .ok (.return_, 1) := by decide +kernel
theorem dX3_houses_0 : decode cX3_houses 0 = .ok (.iload_n 1, 1) := by decide +kernel
theorem dX3_houses_1 : decode cX3_houses 1 = .ok (.iconst 1, 1) := by decide +kernel
theorem dX3_houses_2 : decode cX3_houses 2 = .ok (.if_icmp .lt 8, 3) := by decide +kernel
theorem dX3_houses_5 : decode cX3_houses 5 = .ok (.iload_n 1, 1) := by decide +kernel
theorem dX3_houses_6 : decode cX3_houses 6 = .ok (.iconst 4, 1) := by decide +kernel
theorem dX3_houses_7 : decode cX3_houses 7 = .ok (.if_icmp .le 6, 3) := by decide +kernel
theorem dX3_houses_10 : decode cX3_houses 10 = .ok (.bipush (-102), 2) := by decide +kernel
theorem dX3_houses_12 : decode cX3_houses 12 = .ok (.ireturn, 1) := by decide +kernel
theorem dX3_houses_13 : decode cX3_houses 13 = .ok (.aload_n 0, 1) := by decide +kernel
theorem dX3_houses_14 : decode cX3_houses 14 = .ok (.getfield 10, 3) := by decide +kernel
theorem dX3_houses_17 : decode cX3_houses 17 = .ok (.iload_n 1, 1) := by decide +kernel
theorem dX3_houses_18 : decode cX3_houses 18 = .ok (.invokevirtual 32, 3) := by decide +kernel
theorem dX3_houses_21 : decode cX3_houses 21 = .ok (.iload_n 1, 1) := by decide +kernel
theorem dX3_houses_22 : decode cX3_houses 22 = .ok (.ireturn, 1) := by decide +kernel
theorem dX3_cash_0 : decode cX3_cash 0 = .ok (.aload_n 0, 1) := by decide +kernel
theorem dX3_cash_1 : decode cX3_cash 1 = .ok (.getfield 10, 3) := by decide +kernel
theorem dX3_cash_4 : decode cX3_cash 4 = .ok (.iload_n 1, 1) := by decide +kernel
theorem dX3_cash_5 : decode cX3_cash 5 = .ok (.invokevirtual 36, 3) := by decide +kernel
theorem dX3_cash_8 : decode cX3_cash 8 = .ok (.ifCond .ne 6, 3) := by decide +kernel
theorem dX3_cash_11 : decode cX3_cash 11 = .ok (.bipush (-101), 2) := by decide +kernel
theorem dX3_cash_13 : decode cX3_cash 13 = .ok (.ireturn, 1) := by decide +kernel
theorem dX3_cash_14 : decode cX3_cash 14 = .ok (.iload_n 2, 1) := by decide +kernel
theorem dX3_cash_15 : decode cX3_cash 15 = .ok (.ifCond .lt 10, 3) := by decide +kernel
theorem dX3_cash_18 : decode cX3_cash 18 = .ok (.iload_n 2, 1) := by decide +kernel
theorem dX3_cash_19 : decode cX3_cash 19 = .ok (.sipush 1000, 3) := by decide +kernel
theorem dX3_cash_22 : decode cX3_cash 22 = .ok (.if_icmp .le 6, 3) := by decide +kernel
theorem dX3_cash_25 : decode cX3_cash 25 = .ok (.bipush (-102), 2) := by decide +kernel
theorem dX3_cash_27 : decode cX3_cash 27 = .ok (.ireturn, 1) := by decide +kernel
theorem dX3_cash_28 : decode cX3_cash 28 = .ok (.aload_n 0, 1) := by decide +kernel
theorem dX3_cash_29 : decode cX3_cash 29 = .ok (.getfield 10, 3) := by decide +kernel
theorem dX3_cash_32 : decode cX3_cash 32 = .ok (.iload_n 1, 1) := by decide +kernel
theorem dX3_cash_33 : decode cX3_cash 33 = .ok (.invokevirtual 40, 3) := by decide +kernel
theorem dX3_cash_36 : decode cX3_cash 36 = .ok (.istore_n 3, 1) := by decide +kernel
theorem dX3_cash_37 : decode cX3_cash 37 = .ok (.aload_n 0, 1) := by decide +kernel
theorem dX3_cash_38 : decode cX3_cash 38 = .ok (.getfield 10, 3) := by decide +kernel
theorem dX3_cash_41 : decode cX3_cash 41 = .ok (.iload_n 1, 1) := by decide +kernel
theorem dX3_cash_42 : decode cX3_cash 42 = .ok (.iload_n 2, 1) := by decide +kernel
theorem dX3_cash_43 : decode cX3_cash 43 = .ok (.invokevirtual 44, 3) := by decide +kernel
theorem dX3_cash_46 : decode cX3_cash 46 = .ok (.iload_n 3, 1) := by decide +kernel
theorem dX3_cash_47 : decode cX3_cash 47 = .ok (.ireturn, 1) := by decide +kernel
theorem dX3_owe_0 : decode cX3_owe 0 = .ok (.aload_n 0, 1) := by decide +kernel
theorem dX3_owe_1 : decode cX3_owe 1 = .ok (.getfield 10, 3) := by decide +kernel
theorem dX3_owe_4 : decode cX3_owe 4 = .ok (.iload_n 1, 1) := by decide +kernel
theorem dX3_owe_5 : decode cX3_owe 5 = .ok (.invokevirtual 36, 3) := by decide +kernel
theorem dX3_owe_8 : decode cX3_owe 8 = .ok (.ifCond .eq 14, 3) := by decide +kernel
theorem dX3_owe_11 : decode cX3_owe 11 = .ok (.aload_n 0, 1) := by decide +kernel
theorem dX3_owe_12 : decode cX3_owe 12 = .ok (.getfield 10, 3) := by decide +kernel
theorem dX3_owe_15 : decode cX3_owe 15 = .ok (.iload_n 2, 1) := by decide +kernel
theorem dX3_owe_16 : decode cX3_owe 16 = .ok (.invokevirtual 48, 3) := by decide +kernel
theorem dX3_owe_19 : decode cX3_owe 19 = .ok (.ifCond .ne 6, 3) := by decide +kernel
theorem dX3_owe_22 : decode cX3_owe 22 = .ok (.bipush (-101), 2) := by decide +kernel
theorem dX3_owe_24 : decode cX3_owe 24 = .ok (.ireturn, 1) := by decide +kernel
theorem dX3_owe_25 : decode cX3_owe 25 = .ok (.iload_n 3, 1) := by decide +kernel
theorem dX3_owe_26 : decode cX3_owe 26 = .ok (.ifCond .lt 14, 3) := by decide +kernel
theorem dX3_owe_29 : decode cX3_owe 29 = .ok (.iload_n 3, 1) := by decide +kernel
theorem dX3_owe_30 : decode cX3_owe 30 = .ok (.bipush 50, 2) := by decide +kernel
theorem dX3_owe_32 : decode cX3_owe 32 = .ok (.if_icmp .gt 8, 3) := by decide +kernel
theorem dX3_owe_35 : decode cX3_owe 35 = .ok (.iload_n 1, 1) := by decide +kernel
theorem dX3_owe_36 : decode cX3_owe 36 = .ok (.iload_n 2, 1) := by decide +kernel
theorem dX3_owe_37 : decode cX3_owe 37 = .ok (.if_icmp .ne 6, 3) := by decide +kernel
theorem dX3_owe_40 : decode cX3_owe 40 = .ok (.bipush (-102), 2) := by decide +kernel
theorem dX3_owe_42 : decode cX3_owe 42 = .ok (.ireturn, 1) := by decide +kernel
theorem dX3_owe_43 : decode cX3_owe 43 = .ok (.aload_n 0, 1) := by decide +kernel
theorem dX3_owe_44 : decode cX3_owe 44 = .ok (.getfield 10, 3) := by decide +kernel
theorem dX3_owe_47 : decode cX3_owe 47 = .ok (.iload_n 2, 1) := by decide +kernel
theorem dX3_owe_48 : decode cX3_owe 48 = .ok (.invokevirtual 51, 3) := by decide +kernel
theorem dX3_owe_51 : decode cX3_owe 51 = .ok (.istore 4, 2) := by decide +kernel
theorem dX3_owe_53 : decode cX3_owe 53 = .ok (.aload_n 0, 1) := by decide +kernel
theorem dX3_owe_54 : decode cX3_owe 54 = .ok (.getfield 10, 3) := by decide +kernel
theorem dX3_owe_57 : decode cX3_owe 57 = .ok (.iload_n 1, 1) := by decide +kernel
theorem dX3_owe_58 : decode cX3_owe 58 = .ok (.iload 4, 2) := by decide +kernel
theorem dX3_owe_60 : decode cX3_owe 60 = .ok (.invokevirtual 54, 3) := by decide +kernel
theorem dX3_owe_63 : decode cX3_owe 63 = .ok (.istore 5, 2) := by decide +kernel
theorem dX3_owe_65 : decode cX3_owe 65 = .ok (.aload_n 0, 1) := by decide +kernel
theorem dX3_owe_66 : decode cX3_owe 66 = .ok (.getfield 10, 3) := by decide +kernel
theorem dX3_owe_69 : decode cX3_owe 69 = .ok (.iload_n 1, 1) := by decide +kernel
theorem dX3_owe_70 : decode cX3_owe 70 = .ok (.iload 4, 2) := by decide +kernel
theorem dX3_owe_72 : decode cX3_owe 72 = .ok (.iload_n 3, 1) := by decide +kernel
theorem dX3_owe_73 : decode cX3_owe 73 = .ok (.invokevirtual 58, 3) := by decide +kernel
theorem dX3_owe_76 : decode cX3_owe 76 = .ok (.iload 5, 2) := by decide +kernel
theorem dX3_owe_78 : decode cX3_owe 78 = .ok (.ireturn, 1) := by decide +kernel
theorem dX3_toll_0 : decode cX3_toll 0 = .ok (.iload_n 1, 1) := by decide +kernel
theorem dX3_toll_1 : decode cX3_toll 1 = .ok (.ifCond .lt 8, 3) := by decide +kernel
theorem dX3_toll_4 : decode cX3_toll 4 = .ok (.iload_n 1, 1) := by decide +kernel
theorem dX3_toll_5 : decode cX3_toll 5 = .ok (.iconst 5, 1) := by decide +kernel
theorem dX3_toll_6 : decode cX3_toll 6 = .ok (.if_icmp .le 6, 3) := by decide +kernel
theorem dX3_toll_9 : decode cX3_toll 9 = .ok (.bipush (-102), 2) := by decide +kernel
theorem dX3_toll_11 : decode cX3_toll 11 = .ok (.ireturn, 1) := by decide +kernel
theorem dX3_toll_12 : decode cX3_toll 12 = .ok (.aload_n 0, 1) := by decide +kernel
theorem dX3_toll_13 : decode cX3_toll 13 = .ok (.getfield 10, 3) := by decide +kernel
theorem dX3_toll_16 : decode cX3_toll 16 = .ok (.getfield 62, 3) := by decide +kernel
theorem dX3_toll_19 : decode cX3_toll 19 = .ok (.istore_n 2, 1) := by decide +kernel
theorem dX3_toll_20 : decode cX3_toll 20 = .ok (.aload_n 0, 1) := by decide +kernel
theorem dX3_toll_21 : decode cX3_toll 21 = .ok (.getfield 10, 3) := by decide +kernel
theorem dX3_toll_24 : decode cX3_toll 24 = .ok (.iload_n 1, 1) := by decide +kernel
theorem dX3_toll_25 : decode cX3_toll 25 = .ok (.putfield 62, 3) := by decide +kernel
theorem dX3_toll_28 : decode cX3_toll 28 = .ok (.iload_n 2, 1) := by decide +kernel
theorem dX3_toll_29 : decode cX3_toll 29 = .ok (.ireturn, 1) := by decide +kernel
theorem dX3_cashOf_0 : decode cX3_cashOf 0 = .ok (.aload_n 0, 1) := by decide +kernel
theorem dX3_cashOf_1 : decode cX3_cashOf 1 = .ok (.getfield 10, 3) := by decide +kernel
theorem dX3_cashOf_4 : decode cX3_cashOf 4 = .ok (.iload_n 1, 1) := by decide +kernel
theorem dX3_cashOf_5 : decode cX3_cashOf 5 = .ok (.invokevirtual 36, 3) := by decide +kernel
theorem dX3_cashOf_8 : decode cX3_cashOf 8 = .ok (.ifCond .eq 14, 3) := by decide +kernel
theorem dX3_cashOf_11 : decode cX3_cashOf 11 = .ok (.aload_n 0, 1) := by decide +kernel
theorem dX3_cashOf_12 : decode cX3_cashOf 12 = .ok (.getfield 10, 3) := by decide +kernel
theorem dX3_cashOf_15 : decode cX3_cashOf 15 = .ok (.iload_n 1, 1) := by decide +kernel
theorem dX3_cashOf_16 : decode cX3_cashOf 16 = .ok (.invokevirtual 40, 3) := by decide +kernel
theorem dX3_cashOf_19 : decode cX3_cashOf 19 = .ok (.goto 5, 3) := by decide +kernel
theorem dX3_cashOf_22 : decode cX3_cashOf 22 = .ok (.bipush (-101), 2) := by decide +kernel
theorem dX3_cashOf_24 : decode cX3_cashOf 24 = .ok (.ireturn, 1) := by decide +kernel
theorem dX3_debt_0 : decode cX3_debt 0 = .ok (.aload_n 0, 1) := by decide +kernel
theorem dX3_debt_1 : decode cX3_debt 1 = .ok (.getfield 10, 3) := by decide +kernel
theorem dX3_debt_4 : decode cX3_debt 4 = .ok (.iload_n 1, 1) := by decide +kernel
theorem dX3_debt_5 : decode cX3_debt 5 = .ok (.invokevirtual 36, 3) := by decide +kernel
theorem dX3_debt_8 : decode cX3_debt 8 = .ok (.ifCond .eq 14, 3) := by decide +kernel
theorem dX3_debt_11 : decode cX3_debt 11 = .ok (.aload_n 0, 1) := by decide +kernel
theorem dX3_debt_12 : decode cX3_debt 12 = .ok (.getfield 10, 3) := by decide +kernel
theorem dX3_debt_15 : decode cX3_debt 15 = .ok (.iload_n 2, 1) := by decide +kernel
theorem dX3_debt_16 : decode cX3_debt 16 = .ok (.invokevirtual 48, 3) := by decide +kernel
theorem dX3_debt_19 : decode cX3_debt 19 = .ok (.ifCond .ne 6, 3) := by decide +kernel
theorem dX3_debt_22 : decode cX3_debt 22 = .ok (.bipush (-101), 2) := by decide +kernel
theorem dX3_debt_24 : decode cX3_debt 24 = .ok (.ireturn, 1) := by decide +kernel
theorem dX3_debt_25 : decode cX3_debt 25 = .ok (.aload_n 0, 1) := by decide +kernel
theorem dX3_debt_26 : decode cX3_debt 26 = .ok (.getfield 10, 3) := by decide +kernel
theorem dX3_debt_29 : decode cX3_debt 29 = .ok (.iload_n 1, 1) := by decide +kernel
theorem dX3_debt_30 : decode cX3_debt 30 = .ok (.aload_n 0, 1) := by decide +kernel
theorem dX3_debt_31 : decode cX3_debt 31 = .ok (.getfield 10, 3) := by decide +kernel
theorem dX3_debt_34 : decode cX3_debt 34 = .ok (.iload_n 2, 1) := by decide +kernel
theorem dX3_debt_35 : decode cX3_debt 35 = .ok (.invokevirtual 51, 3) := by decide +kernel
theorem dX3_debt_38 : decode cX3_debt 38 = .ok (.invokevirtual 54, 3) := by decide +kernel
theorem dX3_debt_41 : decode cX3_debt 41 = .ok (.ireturn, 1) := by decide +kernel
theorem dX3_owes_0 : decode cX3_owes 0 = .ok (.aload_n 0, 1) := by decide +kernel
theorem dX3_owes_1 : decode cX3_owes 1 = .ok (.getfield 10, 3) := by decide +kernel
theorem dX3_owes_4 : decode cX3_owes 4 = .ok (.iload_n 1, 1) := by decide +kernel
theorem dX3_owes_5 : decode cX3_owes 5 = .ok (.invokevirtual 36, 3) := by decide +kernel
theorem dX3_owes_8 : decode cX3_owes 8 = .ok (.ifCond .eq 14, 3) := by decide +kernel
theorem dX3_owes_11 : decode cX3_owes 11 = .ok (.aload_n 0, 1) := by decide +kernel
theorem dX3_owes_12 : decode cX3_owes 12 = .ok (.getfield 10, 3) := by decide +kernel
theorem dX3_owes_15 : decode cX3_owes 15 = .ok (.iload_n 1, 1) := by decide +kernel
theorem dX3_owes_16 : decode cX3_owes 16 = .ok (.invokevirtual 66, 3) := by decide +kernel
theorem dX3_owes_19 : decode cX3_owes 19 = .ok (.goto 5, 3) := by decide +kernel
theorem dX3_owes_22 : decode cX3_owes 22 = .ok (.bipush (-101), 2) := by decide +kernel
theorem dX3_owes_24 : decode cX3_owes 24 = .ok (.ireturn, 1) := by decide +kernel
theorem dX3_falls_0 : decode cX3_falls 0 = .ok (.aload_n 0, 1) := by decide +kernel
theorem dX3_falls_1 : decode cX3_falls 1 = .ok (.getfield 10, 3) := by decide +kernel
theorem dX3_falls_4 : decode cX3_falls 4 = .ok (.iload_n 1, 1) := by decide +kernel
theorem dX3_falls_5 : decode cX3_falls 5 = .ok (.invokevirtual 36, 3) := by decide +kernel
theorem dX3_falls_8 : decode cX3_falls 8 = .ok (.ifCond .ne 6, 3) := by decide +kernel
theorem dX3_falls_11 : decode cX3_falls 11 = .ok (.bipush (-101), 2) := by decide +kernel
theorem dX3_falls_13 : decode cX3_falls 13 = .ok (.ireturn, 1) := by decide +kernel
theorem dX3_falls_14 : decode cX3_falls 14 = .ok (.aload_n 0, 1) := by decide +kernel
theorem dX3_falls_15 : decode cX3_falls 15 = .ok (.getfield 21, 3) := by decide +kernel
theorem dX3_falls_18 : decode cX3_falls 18 = .ok (.iconst (-1), 1) := by decide +kernel
theorem dX3_falls_19 : decode cX3_falls 19 = .ok (.invokevirtual 69, 3) := by decide +kernel
theorem dX3_falls_22 : decode cX3_falls 22 = .ok (.aload_n 0, 1) := by decide +kernel
theorem dX3_falls_23 : decode cX3_falls 23 = .ok (.getfield 21, 3) := by decide +kernel
theorem dX3_falls_26 : decode cX3_falls 26 = .ok (.iload_n 1, 1) := by decide +kernel
theorem dX3_falls_27 : decode cX3_falls 27 = .ok (.invokevirtual 72, 3) := by decide +kernel
theorem dX3_falls_30 : decode cX3_falls 30 = .ok (.ireturn, 1) := by decide +kernel
theorem dX3_rounds_0 : decode cX3_rounds 0 = .ok (.aload_n 0, 1) := by decide +kernel
theorem dX3_rounds_1 : decode cX3_rounds 1 = .ok (.getfield 21, 3) := by decide +kernel
theorem dX3_rounds_4 : decode cX3_rounds 4 = .ok (.iconst (-1), 1) := by decide +kernel
theorem dX3_rounds_5 : decode cX3_rounds 5 = .ok (.invokevirtual 69, 3) := by decide +kernel
theorem dX3_rounds_8 : decode cX3_rounds 8 = .ok (.aload_n 0, 1) := by decide +kernel
theorem dX3_rounds_9 : decode cX3_rounds 9 = .ok (.getfield 21, 3) := by decide +kernel
theorem dX3_rounds_12 : decode cX3_rounds 12 = .ok (.getfield 75, 3) := by decide +kernel
theorem dX3_rounds_15 : decode cX3_rounds 15 = .ok (.ireturn, 1) := by decide +kernel
theorem dX3_share_0 : decode cX3_share 0 = .ok (.aload_n 0, 1) := by decide +kernel
theorem dX3_share_1 : decode cX3_share 1 = .ok (.getfield 10, 3) := by decide +kernel
theorem dX3_share_4 : decode cX3_share 4 = .ok (.iload_n 1, 1) := by decide +kernel
theorem dX3_share_5 : decode cX3_share 5 = .ok (.invokevirtual 36, 3) := by decide +kernel
theorem dX3_share_8 : decode cX3_share 8 = .ok (.ifCond .ne 7, 3) := by decide +kernel
theorem dX3_share_11 : decode cX3_share 11 = .ok (.ldc2_w 78, 3) := by decide +kernel
theorem dX3_share_14 : decode cX3_share 14 = .ok (.lreturn, 1) := by decide +kernel
theorem dX3_share_15 : decode cX3_share 15 = .ok (.iload_n 2, 1) := by decide +kernel
theorem dX3_share_16 : decode cX3_share 16 = .ok (.invokestatic 80, 3) := by decide +kernel
theorem dX3_share_19 : decode cX3_share 19 = .ok (.ifCond .ne 7, 3) := by decide +kernel
theorem dX3_share_22 : decode cX3_share 22 = .ok (.ldc2_w 83, 3) := by decide +kernel
theorem dX3_share_25 : decode cX3_share 25 = .ok (.lreturn, 1) := by decide +kernel
theorem dX3_share_26 : decode cX3_share 26 = .ok (.aload_n 0, 1) := by decide +kernel
theorem dX3_share_27 : decode cX3_share 27 = .ok (.getfield 21, 3) := by decide +kernel
theorem dX3_share_30 : decode cX3_share 30 = .ok (.iconst (-1), 1) := by decide +kernel
theorem dX3_share_31 : decode cX3_share 31 = .ok (.invokevirtual 69, 3) := by decide +kernel
theorem dX3_share_34 : decode cX3_share 34 = .ok (.aload_n 0, 1) := by decide +kernel
theorem dX3_share_35 : decode cX3_share 35 = .ok (.getfield 21, 3) := by decide +kernel
theorem dX3_share_38 : decode cX3_share 38 = .ok (.iload_n 1, 1) := by decide +kernel
theorem dX3_share_39 : decode cX3_share 39 = .ok (.invokevirtual 85, 3) := by decide +kernel
theorem dX3_share_42 : decode cX3_share 42 = .ok (.aload_n 0, 1) := by decide +kernel
theorem dX3_share_43 : decode cX3_share 43 = .ok (.getfield 21, 3) := by decide +kernel
theorem dX3_share_46 : decode cX3_share 46 = .ok (.getfield 89, 3) := by decide +kernel
theorem dX3_share_49 : decode cX3_share 49 = .ok (.iload_n 2, 1) := by decide +kernel
theorem dX3_share_50 : decode cX3_share 50 = .ok (.invokestatic 93, 3) := by decide +kernel
theorem dX3_share_53 : decode cX3_share 53 = .ok (.lreturn, 1) := by decide +kernel
theorem dX3_gross_0 : decode cX3_gross 0 = .ok (.aload_n 0, 1) := by decide +kernel
theorem dX3_gross_1 : decode cX3_gross 1 = .ok (.getfield 10, 3) := by decide +kernel
theorem dX3_gross_4 : decode cX3_gross 4 = .ok (.iload_n 1, 1) := by decide +kernel
theorem dX3_gross_5 : decode cX3_gross 5 = .ok (.invokevirtual 36, 3) := by decide +kernel
theorem dX3_gross_8 : decode cX3_gross 8 = .ok (.ifCond .ne 7, 3) := by decide +kernel
theorem dX3_gross_11 : decode cX3_gross 11 = .ok (.ldc2_w 78, 3) := by decide +kernel
theorem dX3_gross_14 : decode cX3_gross 14 = .ok (.lreturn, 1) := by decide +kernel
theorem dX3_gross_15 : decode cX3_gross 15 = .ok (.iload_n 2, 1) := by decide +kernel
theorem dX3_gross_16 : decode cX3_gross 16 = .ok (.invokestatic 80, 3) := by decide +kernel
theorem dX3_gross_19 : decode cX3_gross 19 = .ok (.ifCond .ne 7, 3) := by decide +kernel
theorem dX3_gross_22 : decode cX3_gross 22 = .ok (.ldc2_w 83, 3) := by decide +kernel
theorem dX3_gross_25 : decode cX3_gross 25 = .ok (.lreturn, 1) := by decide +kernel
theorem dX3_gross_26 : decode cX3_gross 26 = .ok (.aload_n 0, 1) := by decide +kernel
theorem dX3_gross_27 : decode cX3_gross 27 = .ok (.getfield 21, 3) := by decide +kernel
theorem dX3_gross_30 : decode cX3_gross 30 = .ok (.iconst (-1), 1) := by decide +kernel
theorem dX3_gross_31 : decode cX3_gross 31 = .ok (.invokevirtual 69, 3) := by decide +kernel
theorem dX3_gross_34 : decode cX3_gross 34 = .ok (.aload_n 0, 1) := by decide +kernel
theorem dX3_gross_35 : decode cX3_gross 35 = .ok (.getfield 21, 3) := by decide +kernel
theorem dX3_gross_38 : decode cX3_gross 38 = .ok (.iload_n 1, 1) := by decide +kernel
theorem dX3_gross_39 : decode cX3_gross 39 = .ok (.invokevirtual 97, 3) := by decide +kernel
theorem dX3_gross_42 : decode cX3_gross 42 = .ok (.aload_n 0, 1) := by decide +kernel
theorem dX3_gross_43 : decode cX3_gross 43 = .ok (.getfield 21, 3) := by decide +kernel
theorem dX3_gross_46 : decode cX3_gross 46 = .ok (.getfield 89, 3) := by decide +kernel
theorem dX3_gross_49 : decode cX3_gross 49 = .ok (.iload_n 2, 1) := by decide +kernel
theorem dX3_gross_50 : decode cX3_gross 50 = .ok (.invokestatic 93, 3) := by decide +kernel
theorem dX3_gross_53 : decode cX3_gross 53 = .ok (.lreturn, 1) := by decide +kernel
theorem dX3_pays_0 : decode cX3_pays 0 = .ok (.aload_n 0, 1) := by decide +kernel
theorem dX3_pays_1 : decode cX3_pays 1 = .ok (.getfield 10, 3) := by decide +kernel
theorem dX3_pays_4 : decode cX3_pays 4 = .ok (.iload_n 1, 1) := by decide +kernel
theorem dX3_pays_5 : decode cX3_pays 5 = .ok (.invokevirtual 36, 3) := by decide +kernel
theorem dX3_pays_8 : decode cX3_pays 8 = .ok (.ifCond .eq 14, 3) := by decide +kernel
theorem dX3_pays_11 : decode cX3_pays 11 = .ok (.aload_n 0, 1) := by decide +kernel
theorem dX3_pays_12 : decode cX3_pays 12 = .ok (.getfield 10, 3) := by decide +kernel
theorem dX3_pays_15 : decode cX3_pays 15 = .ok (.iload_n 2, 1) := by decide +kernel
theorem dX3_pays_16 : decode cX3_pays 16 = .ok (.invokevirtual 48, 3) := by decide +kernel
theorem dX3_pays_19 : decode cX3_pays 19 = .ok (.ifCond .ne 7, 3) := by decide +kernel
theorem dX3_pays_22 : decode cX3_pays 22 = .ok (.ldc2_w 78, 3) := by decide +kernel
theorem dX3_pays_25 : decode cX3_pays 25 = .ok (.lreturn, 1) := by decide +kernel
theorem dX3_pays_26 : decode cX3_pays 26 = .ok (.iload_n 3, 1) := by decide +kernel
theorem dX3_pays_27 : decode cX3_pays 27 = .ok (.invokestatic 80, 3) := by decide +kernel
theorem dX3_pays_30 : decode cX3_pays 30 = .ok (.ifCond .ne 7, 3) := by decide +kernel
theorem dX3_pays_33 : decode cX3_pays 33 = .ok (.ldc2_w 83, 3) := by decide +kernel
theorem dX3_pays_36 : decode cX3_pays 36 = .ok (.lreturn, 1) := by decide +kernel
theorem dX3_pays_37 : decode cX3_pays 37 = .ok (.aload_n 0, 1) := by decide +kernel
theorem dX3_pays_38 : decode cX3_pays 38 = .ok (.getfield 21, 3) := by decide +kernel
theorem dX3_pays_41 : decode cX3_pays 41 = .ok (.iconst (-1), 1) := by decide +kernel
theorem dX3_pays_42 : decode cX3_pays 42 = .ok (.invokevirtual 69, 3) := by decide +kernel
theorem dX3_pays_45 : decode cX3_pays 45 = .ok (.aload_n 0, 1) := by decide +kernel
theorem dX3_pays_46 : decode cX3_pays 46 = .ok (.getfield 21, 3) := by decide +kernel
theorem dX3_pays_49 : decode cX3_pays 49 = .ok (.iload_n 1, 1) := by decide +kernel
theorem dX3_pays_50 : decode cX3_pays 50 = .ok (.invokevirtual 85, 3) := by decide +kernel
theorem dX3_pays_53 : decode cX3_pays 53 = .ok (.aload_n 0, 1) := by decide +kernel
theorem dX3_pays_54 : decode cX3_pays 54 = .ok (.getfield 10, 3) := by decide +kernel
theorem dX3_pays_57 : decode cX3_pays 57 = .ok (.iload_n 1, 1) := by decide +kernel
theorem dX3_pays_58 : decode cX3_pays 58 = .ok (.aload_n 0, 1) := by decide +kernel
theorem dX3_pays_59 : decode cX3_pays 59 = .ok (.getfield 10, 3) := by decide +kernel
theorem dX3_pays_62 : decode cX3_pays 62 = .ok (.iload_n 2, 1) := by decide +kernel
theorem dX3_pays_63 : decode cX3_pays 63 = .ok (.invokevirtual 51, 3) := by decide +kernel
theorem dX3_pays_66 : decode cX3_pays 66 = .ok (.invokevirtual 54, 3) := by decide +kernel
theorem dX3_pays_69 : decode cX3_pays 69 = .ok (.i2l, 1) := by decide +kernel
theorem dX3_pays_70 : decode cX3_pays 70 = .ok (.lmul, 1) := by decide +kernel
theorem dX3_pays_71 : decode cX3_pays 71 = .ok (.lstore 4, 2) := by decide +kernel
theorem dX3_pays_73 : decode cX3_pays 73 = .ok (.lload 4, 2) := by decide +kernel
theorem dX3_pays_75 : decode cX3_pays 75 = .ok (.aload_n 0, 1) := by decide +kernel
theorem dX3_pays_76 : decode cX3_pays 76 = .ok (.getfield 21, 3) := by decide +kernel
theorem dX3_pays_79 : decode cX3_pays 79 = .ok (.getfield 89, 3) := by decide +kernel
theorem dX3_pays_82 : decode cX3_pays 82 = .ok (.iload_n 3, 1) := by decide +kernel
theorem dX3_pays_83 : decode cX3_pays 83 = .ok (.invokestatic 93, 3) := by decide +kernel
theorem dX3_pays_86 : decode cX3_pays 86 = .ok (.lreturn, 1) := by decide +kernel
theorem dX3_left_0 : decode cX3_left 0 = .ok (.aload_n 0, 1) := by decide +kernel
theorem dX3_left_1 : decode cX3_left 1 = .ok (.getfield 10, 3) := by decide +kernel
theorem dX3_left_4 : decode cX3_left 4 = .ok (.iload_n 1, 1) := by decide +kernel
theorem dX3_left_5 : decode cX3_left 5 = .ok (.invokevirtual 36, 3) := by decide +kernel
theorem dX3_left_8 : decode cX3_left 8 = .ok (.ifCond .ne 7, 3) := by decide +kernel
theorem dX3_left_11 : decode cX3_left 11 = .ok (.ldc2_w 78, 3) := by decide +kernel
theorem dX3_left_14 : decode cX3_left 14 = .ok (.lreturn, 1) := by decide +kernel
theorem dX3_left_15 : decode cX3_left 15 = .ok (.iload_n 2, 1) := by decide +kernel
theorem dX3_left_16 : decode cX3_left 16 = .ok (.invokestatic 80, 3) := by decide +kernel
theorem dX3_left_19 : decode cX3_left 19 = .ok (.ifCond .ne 7, 3) := by decide +kernel
theorem dX3_left_22 : decode cX3_left 22 = .ok (.ldc2_w 83, 3) := by decide +kernel
theorem dX3_left_25 : decode cX3_left 25 = .ok (.lreturn, 1) := by decide +kernel
theorem dX3_left_26 : decode cX3_left 26 = .ok (.aload_n 0, 1) := by decide +kernel
theorem dX3_left_27 : decode cX3_left 27 = .ok (.getfield 21, 3) := by decide +kernel
theorem dX3_left_30 : decode cX3_left 30 = .ok (.iconst (-1), 1) := by decide +kernel
theorem dX3_left_31 : decode cX3_left 31 = .ok (.invokevirtual 69, 3) := by decide +kernel
theorem dX3_left_34 : decode cX3_left 34 = .ok (.aload_n 0, 1) := by decide +kernel
theorem dX3_left_35 : decode cX3_left 35 = .ok (.getfield 21, 3) := by decide +kernel
theorem dX3_left_38 : decode cX3_left 38 = .ok (.iload_n 1, 1) := by decide +kernel
theorem dX3_left_39 : decode cX3_left 39 = .ok (.invokevirtual 100, 3) := by decide +kernel
theorem dX3_left_42 : decode cX3_left 42 = .ok (.aload_n 0, 1) := by decide +kernel
theorem dX3_left_43 : decode cX3_left 43 = .ok (.getfield 21, 3) := by decide +kernel
theorem dX3_left_46 : decode cX3_left 46 = .ok (.getfield 89, 3) := by decide +kernel
theorem dX3_left_49 : decode cX3_left 49 = .ok (.iload_n 2, 1) := by decide +kernel
theorem dX3_left_50 : decode cX3_left 50 = .ok (.invokestatic 93, 3) := by decide +kernel
theorem dX3_left_53 : decode cX3_left 53 = .ok (.lreturn, 1) := by decide +kernel
theorem dX3_lost_0 : decode cX3_lost 0 = .ok (.iload_n 1, 1) := by decide +kernel
theorem dX3_lost_1 : decode cX3_lost 1 = .ok (.invokestatic 80, 3) := by decide +kernel
theorem dX3_lost_4 : decode cX3_lost 4 = .ok (.ifCond .ne 7, 3) := by decide +kernel
theorem dX3_lost_7 : decode cX3_lost 7 = .ok (.ldc2_w 83, 3) := by decide +kernel
theorem dX3_lost_10 : decode cX3_lost 10 = .ok (.lreturn, 1) := by decide +kernel
theorem dX3_lost_11 : decode cX3_lost 11 = .ok (.aload_n 0, 1) := by decide +kernel
theorem dX3_lost_12 : decode cX3_lost 12 = .ok (.getfield 21, 3) := by decide +kernel
theorem dX3_lost_15 : decode cX3_lost 15 = .ok (.iconst (-1), 1) := by decide +kernel
theorem dX3_lost_16 : decode cX3_lost 16 = .ok (.invokevirtual 69, 3) := by decide +kernel
theorem dX3_lost_19 : decode cX3_lost 19 = .ok (.aload_n 0, 1) := by decide +kernel
theorem dX3_lost_20 : decode cX3_lost 20 = .ok (.getfield 21, 3) := by decide +kernel
theorem dX3_lost_23 : decode cX3_lost 23 = .ok (.invokevirtual 103, 3) := by decide +kernel
theorem dX3_lost_26 : decode cX3_lost 26 = .ok (.aload_n 0, 1) := by decide +kernel
theorem dX3_lost_27 : decode cX3_lost 27 = .ok (.getfield 21, 3) := by decide +kernel
theorem dX3_lost_30 : decode cX3_lost 30 = .ok (.getfield 89, 3) := by decide +kernel
theorem dX3_lost_33 : decode cX3_lost 33 = .ok (.ldc2_w 107, 3) := by decide +kernel
theorem dX3_lost_36 : decode cX3_lost 36 = .ok (.lmul, 1) := by decide +kernel
theorem dX3_lost_37 : decode cX3_lost 37 = .ok (.iload_n 1, 1) := by decide +kernel
theorem dX3_lost_38 : decode cX3_lost 38 = .ok (.invokestatic 93, 3) := by decide +kernel
theorem dX3_lost_41 : decode cX3_lost 41 = .ok (.lreturn, 1) := by decide +kernel
theorem dX3_drag_0 : decode cX3_drag 0 = .ok (.aload_n 0, 1) := by decide +kernel
theorem dX3_drag_1 : decode cX3_drag 1 = .ok (.getfield 10, 3) := by decide +kernel
theorem dX3_drag_4 : decode cX3_drag 4 = .ok (.iload_n 1, 1) := by decide +kernel
theorem dX3_drag_5 : decode cX3_drag 5 = .ok (.invokevirtual 36, 3) := by decide +kernel
theorem dX3_drag_8 : decode cX3_drag 8 = .ok (.ifCond .ne 6, 3) := by decide +kernel
theorem dX3_drag_11 : decode cX3_drag 11 = .ok (.bipush (-101), 2) := by decide +kernel
theorem dX3_drag_13 : decode cX3_drag 13 = .ok (.ireturn, 1) := by decide +kernel
theorem dX3_drag_14 : decode cX3_drag 14 = .ok (.aload_n 0, 1) := by decide +kernel
theorem dX3_drag_15 : decode cX3_drag 15 = .ok (.getfield 21, 3) := by decide +kernel
theorem dX3_drag_18 : decode cX3_drag 18 = .ok (.iload_n 1, 1) := by decide +kernel
theorem dX3_drag_19 : decode cX3_drag 19 = .ok (.invokevirtual 69, 3) := by decide +kernel
theorem dX3_drag_22 : decode cX3_drag 22 = .ok (.aload_n 0, 1) := by decide +kernel
theorem dX3_drag_23 : decode cX3_drag 23 = .ok (.getfield 21, 3) := by decide +kernel
theorem dX3_drag_26 : decode cX3_drag 26 = .ok (.invokevirtual 109, 3) := by decide +kernel
theorem dX3_drag_29 : decode cX3_drag 29 = .ok (.ireturn, 1) := by decide +kernel
theorem dX3_help_0 : decode cX3_help 0 = .ok (.aload_n 0, 1) := by decide +kernel
theorem dX3_help_1 : decode cX3_help 1 = .ok (.getfield 10, 3) := by decide +kernel
theorem dX3_help_4 : decode cX3_help 4 = .ok (.iload_n 1, 1) := by decide +kernel
theorem dX3_help_5 : decode cX3_help 5 = .ok (.invokevirtual 36, 3) := by decide +kernel
theorem dX3_help_8 : decode cX3_help 8 = .ok (.ifCond .eq 14, 3) := by decide +kernel
theorem dX3_help_11 : decode cX3_help 11 = .ok (.aload_n 0, 1) := by decide +kernel
theorem dX3_help_12 : decode cX3_help 12 = .ok (.getfield 10, 3) := by decide +kernel
theorem dX3_help_15 : decode cX3_help 15 = .ok (.iload_n 1, 1) := by decide +kernel
theorem dX3_help_16 : decode cX3_help 16 = .ok (.invokevirtual 113, 3) := by decide +kernel
theorem dX3_help_19 : decode cX3_help 19 = .ok (.goto 5, 3) := by decide +kernel
theorem dX3_help_22 : decode cX3_help 22 = .ok (.bipush (-101), 2) := by decide +kernel
theorem dX3_help_24 : decode cX3_help 24 = .ok (.ireturn, 1) := by decide +kernel
theorem dX3_best_0 : decode cX3_best 0 = .ok (.iconst (-1), 1) := by decide +kernel
theorem dX3_best_1 : decode cX3_best 1 = .ok (.istore_n 1, 1) := by decide +kernel
theorem dX3_best_2 : decode cX3_best 2 = .ok (.iconst (-1), 1) := by decide +kernel
theorem dX3_best_3 : decode cX3_best 3 = .ok (.istore_n 2, 1) := by decide +kernel
theorem dX3_best_4 : decode cX3_best 4 = .ok (.iconst 0, 1) := by decide +kernel
theorem dX3_best_5 : decode cX3_best 5 = .ok (.istore_n 3, 1) := by decide +kernel
theorem dX3_best_6 : decode cX3_best 6 = .ok (.iload_n 3, 1) := by decide +kernel
theorem dX3_best_7 : decode cX3_best 7 = .ok (.aload_n 0, 1) := by decide +kernel
theorem dX3_best_8 : decode cX3_best 8 = .ok (.getfield 10, 3) := by decide +kernel
theorem dX3_best_11 : decode cX3_best 11 = .ok (.getfield 116, 3) := by decide +kernel
theorem dX3_best_14 : decode cX3_best 14 = .ok (.if_icmp .ge 41, 3) := by decide +kernel
theorem dX3_best_17 : decode cX3_best 17 = .ok (.aload_n 0, 1) := by decide +kernel
theorem dX3_best_18 : decode cX3_best 18 = .ok (.getfield 10, 3) := by decide +kernel
theorem dX3_best_21 : decode cX3_best 21 = .ok (.iload_n 3, 1) := by decide +kernel
theorem dX3_best_22 : decode cX3_best 22 = .ok (.invokevirtual 113, 3) := by decide +kernel
theorem dX3_best_25 : decode cX3_best 25 = .ok (.istore 4, 2) := by decide +kernel
theorem dX3_best_27 : decode cX3_best 27 = .ok (.iload 4, 2) := by decide +kernel
theorem dX3_best_29 : decode cX3_best 29 = .ok (.iconst (-1), 1) := by decide +kernel
theorem dX3_best_30 : decode cX3_best 30 = .ok (.if_icmp .eq 19, 3) := by decide +kernel
theorem dX3_best_33 : decode cX3_best 33 = .ok (.iload_n 1, 1) := by decide +kernel
theorem dX3_best_34 : decode cX3_best 34 = .ok (.iconst (-1), 1) := by decide +kernel
theorem dX3_best_35 : decode cX3_best 35 = .ok (.if_icmp .eq 9, 3) := by decide +kernel
theorem dX3_best_38 : decode cX3_best 38 = .ok (.iload 4, 2) := by decide +kernel
theorem dX3_best_40 : decode cX3_best 40 = .ok (.iload_n 2, 1) := by decide +kernel
theorem dX3_best_41 : decode cX3_best 41 = .ok (.if_icmp .ge 8, 3) := by decide +kernel
theorem dX3_best_44 : decode cX3_best 44 = .ok (.iload_n 3, 1) := by decide +kernel
theorem dX3_best_45 : decode cX3_best 45 = .ok (.istore_n 1, 1) := by decide +kernel
theorem dX3_best_46 : decode cX3_best 46 = .ok (.iload 4, 2) := by decide +kernel
theorem dX3_best_48 : decode cX3_best 48 = .ok (.istore_n 2, 1) := by decide +kernel
theorem dX3_best_49 : decode cX3_best 49 = .ok (.iinc 3 1, 3) := by decide +kernel
theorem dX3_best_52 : decode cX3_best 52 = .ok (.goto (-46), 3) := by decide +kernel
theorem dX3_best_55 : decode cX3_best 55 = .ok (.iload_n 1, 1) := by decide +kernel
theorem dX3_best_56 : decode cX3_best 56 = .ok (.ireturn, 1) := by decide +kernel
theorem dX3_net_0 : decode cX3_net 0 = .ok (.aload_n 0, 1) := by decide +kernel
theorem dX3_net_1 : decode cX3_net 1 = .ok (.getfield 10, 3) := by decide +kernel
theorem dX3_net_4 : decode cX3_net 4 = .ok (.iload_n 1, 1) := by decide +kernel
theorem dX3_net_5 : decode cX3_net 5 = .ok (.invokevirtual 36, 3) := by decide +kernel
theorem dX3_net_8 : decode cX3_net 8 = .ok (.ifCond .eq 23, 3) := by decide +kernel
theorem dX3_net_11 : decode cX3_net 11 = .ok (.aload_n 0, 1) := by decide +kernel
theorem dX3_net_12 : decode cX3_net 12 = .ok (.getfield 10, 3) := by decide +kernel
theorem dX3_net_15 : decode cX3_net 15 = .ok (.iload_n 1, 1) := by decide +kernel
theorem dX3_net_16 : decode cX3_net 16 = .ok (.invokevirtual 119, 3) := by decide +kernel
theorem dX3_net_19 : decode cX3_net 19 = .ok (.aload_n 0, 1) := by decide +kernel
theorem dX3_net_20 : decode cX3_net 20 = .ok (.getfield 10, 3) := by decide +kernel
theorem dX3_net_23 : decode cX3_net 23 = .ok (.iload_n 1, 1) := by decide +kernel
theorem dX3_net_24 : decode cX3_net 24 = .ok (.invokevirtual 66, 3) := by decide +kernel
theorem dX3_net_27 : decode cX3_net 27 = .ok (.isub, 1) := by decide +kernel
theorem dX3_net_28 : decode cX3_net 28 = .ok (.goto 5, 3) := by decide +kernel
theorem dX3_net_31 : decode cX3_net 31 = .ok (.ldc 122, 2) := by decide +kernel
theorem dX3_net_33 : decode cX3_net 33 = .ok (.ireturn, 1) := by decide +kernel
theorem dX3_rings_0 : decode cX3_rings 0 = .ok (.aload_n 0, 1) := by decide +kernel
theorem dX3_rings_1 : decode cX3_rings 1 = .ok (.getfield 28, 3) := by decide +kernel
theorem dX3_rings_4 : decode cX3_rings 4 = .ok (.invokevirtual 123, 3) := by decide +kernel
theorem dX3_rings_7 : decode cX3_rings 7 = .ok (.ireturn, 1) := by decide +kernel
theorem dX3_ring_0 : decode cX3_ring 0 = .ok (.aload_n 0, 1) := by decide +kernel
theorem dX3_ring_1 : decode cX3_ring 1 = .ok (.getfield 28, 3) := by decide +kernel
theorem dX3_ring_4 : decode cX3_ring 4 = .ok (.iload_n 1, 1) := by decide +kernel
theorem dX3_ring_5 : decode cX3_ring 5 = .ok (.invokevirtual 126, 3) := by decide +kernel
theorem dX3_ring_8 : decode cX3_ring 8 = .ok (.ireturn, 1) := by decide +kernel
theorem dX3_cancel_0 : decode cX3_cancel 0 = .ok (.aload_n 0, 1) := by decide +kernel
theorem dX3_cancel_1 : decode cX3_cancel 1 = .ok (.getfield 28, 3) := by decide +kernel
theorem dX3_cancel_4 : decode cX3_cancel 4 = .ok (.iconst 0, 1) := by decide +kernel
theorem dX3_cancel_5 : decode cX3_cancel 5 = .ok (.invokevirtual 126, 3) := by decide +kernel
theorem dX3_cancel_8 : decode cX3_cancel 8 = .ok (.istore_n 1, 1) := by decide +kernel
theorem dX3_cancel_9 : decode cX3_cancel 9 = .ok (.iload_n 1, 1) := by decide +kernel
theorem dX3_cancel_10 : decode cX3_cancel 10 = .ok (.iconst (-1), 1) := by decide +kernel
theorem dX3_cancel_11 : decode cX3_cancel 11 = .ok (.if_icmp .ne 7, 3) := by decide +kernel
theorem dX3_cancel_14 : decode cX3_cancel 14 = .ok (.iconst 0, 1) := by decide +kernel
theorem dX3_cancel_15 : decode cX3_cancel 15 = .ok (.goto 11, 3) := by decide +kernel
theorem dX3_cancel_18 : decode cX3_cancel 18 = .ok (.aload_n 0, 1) := by decide +kernel
theorem dX3_cancel_19 : decode cX3_cancel 19 = .ok (.getfield 28, 3) := by decide +kernel
theorem dX3_cancel_22 : decode cX3_cancel 22 = .ok (.iload_n 1, 1) := by decide +kernel
theorem dX3_cancel_23 : decode cX3_cancel 23 = .ok (.invokevirtual 129, 3) := by decide +kernel
theorem dX3_cancel_26 : decode cX3_cancel 26 = .ok (.ireturn, 1) := by decide +kernel
theorem dX3_cancelAll_0 : decode cX3_cancelAll 0 = .ok (.iconst 0, 1) := by decide +kernel
theorem dX3_cancelAll_1 : decode cX3_cancelAll 1 = .ok (.istore_n 1, 1) := by decide +kernel
theorem dX3_cancelAll_2 : decode cX3_cancelAll 2 = .ok (.iconst 0, 1) := by decide +kernel
theorem dX3_cancelAll_3 : decode cX3_cancelAll 3 = .ok (.istore_n 2, 1) := by decide +kernel
theorem dX3_cancelAll_4 : decode cX3_cancelAll 4 = .ok (.iload_n 2, 1) := by decide +kernel
theorem dX3_cancelAll_5 : decode cX3_cancelAll 5 = .ok (.bipush 20, 2) := by decide +kernel
theorem dX3_cancelAll_7 : decode cX3_cancelAll 7 = .ok (.if_icmp .ge 50, 3) := by decide +kernel
theorem dX3_cancelAll_10 : decode cX3_cancelAll 10 = .ok (.aload_n 0, 1) := by decide +kernel
theorem dX3_cancelAll_11 : decode cX3_cancelAll 11 = .ok (.getfield 28, 3) := by decide +kernel
theorem dX3_cancelAll_14 : decode cX3_cancelAll 14 = .ok (.iconst 0, 1) := by decide +kernel
theorem dX3_cancelAll_15 : decode cX3_cancelAll 15 = .ok (.invokevirtual 126, 3) := by decide +kernel
theorem dX3_cancelAll_18 : decode cX3_cancelAll 18 = .ok (.istore_n 3, 1) := by decide +kernel
theorem dX3_cancelAll_19 : decode cX3_cancelAll 19 = .ok (.iload_n 3, 1) := by decide +kernel
theorem dX3_cancelAll_20 : decode cX3_cancelAll 20 = .ok (.iconst (-1), 1) := by decide +kernel
theorem dX3_cancelAll_21 : decode cX3_cancelAll 21 = .ok (.if_icmp .ne 6, 3) := by decide +kernel
theorem dX3_cancelAll_24 : decode cX3_cancelAll 24 = .ok (.goto 33, 3) := by decide +kernel
theorem dX3_cancelAll_27 : decode cX3_cancelAll 27 = .ok (.aload_n 0, 1) := by decide +kernel
theorem dX3_cancelAll_28 : decode cX3_cancelAll 28 = .ok (.getfield 28, 3) := by decide +kernel
theorem dX3_cancelAll_31 : decode cX3_cancelAll 31 = .ok (.iload_n 3, 1) := by decide +kernel
theorem dX3_cancelAll_32 : decode cX3_cancelAll 32 = .ok (.invokevirtual 132, 3) := by decide +kernel
theorem dX3_cancelAll_35 : decode cX3_cancelAll 35 = .ok (.istore 4, 2) := by decide +kernel
theorem dX3_cancelAll_37 : decode cX3_cancelAll 37 = .ok (.iload_n 1, 1) := by decide +kernel
theorem dX3_cancelAll_38 : decode cX3_cancelAll 38 = .ok (.iload 4, 2) := by decide +kernel
theorem dX3_cancelAll_40 : decode cX3_cancelAll 40 = .ok (.aload_n 0, 1) := by decide +kernel
theorem dX3_cancelAll_41 : decode cX3_cancelAll 41 = .ok (.getfield 28, 3) := by decide +kernel
theorem dX3_cancelAll_44 : decode cX3_cancelAll 44 = .ok (.iload_n 3, 1) := by decide +kernel
theorem dX3_cancelAll_45 : decode cX3_cancelAll 45 = .ok (.invokevirtual 129, 3) := by decide +kernel
theorem dX3_cancelAll_48 : decode cX3_cancelAll 48 = .ok (.imul, 1) := by decide +kernel
theorem dX3_cancelAll_49 : decode cX3_cancelAll 49 = .ok (.iadd, 1) := by decide +kernel
theorem dX3_cancelAll_50 : decode cX3_cancelAll 50 = .ok (.istore_n 1, 1) := by decide +kernel
theorem dX3_cancelAll_51 : decode cX3_cancelAll 51 = .ok (.iinc 2 1, 3) := by decide +kernel
theorem dX3_cancelAll_54 : decode cX3_cancelAll 54 = .ok (.goto (-50), 3) := by decide +kernel
theorem dX3_cancelAll_57 : decode cX3_cancelAll 57 = .ok (.iload_n 1, 1) := by decide +kernel
theorem dX3_cancelAll_58 : decode cX3_cancelAll 58 = .ok (.ireturn, 1) := by decide +kernel
theorem dX3_day_0 : decode cX3_day 0 = .ok (.aload_n 0, 1) := by decide +kernel
theorem dX3_day_1 : decode cX3_day 1 = .ok (.getfield 10, 3) := by decide +kernel
theorem dX3_day_4 : decode cX3_day 4 = .ok (.invokevirtual 135, 3) := by decide +kernel
theorem dX3_day_7 : decode cX3_day 7 = .ok (.ireturn, 1) := by decide +kernel
theorem dX3_days_0 : decode cX3_days 0 = .ok (.iconst 0, 1) := by decide +kernel
theorem dX3_days_1 : decode cX3_days 1 = .ok (.istore_n 1, 1) := by decide +kernel
theorem dX3_days_2 : decode cX3_days 2 = .ok (.iload_n 1, 1) := by decide +kernel
theorem dX3_days_3 : decode cX3_days 3 = .ok (.bipush 20, 2) := by decide +kernel
theorem dX3_days_5 : decode cX3_days 5 = .ok (.if_icmp .ge 19, 3) := by decide +kernel
theorem dX3_days_8 : decode cX3_days 8 = .ok (.aload_n 0, 1) := by decide +kernel
theorem dX3_days_9 : decode cX3_days 9 = .ok (.getfield 10, 3) := by decide +kernel
theorem dX3_days_12 : decode cX3_days 12 = .ok (.invokevirtual 135, 3) := by decide +kernel
theorem dX3_days_15 : decode cX3_days 15 = .ok (.ifCond .le 9, 3) := by decide +kernel
theorem dX3_days_18 : decode cX3_days 18 = .ok (.iinc 1 1, 3) := by decide +kernel
theorem dX3_days_21 : decode cX3_days 21 = .ok (.goto (-19), 3) := by decide +kernel
theorem dX3_days_24 : decode cX3_days 24 = .ok (.iload_n 1, 1) := by decide +kernel
theorem dX3_days_25 : decode cX3_days 25 = .ok (.ireturn, 1) := by decide +kernel
theorem dX3_count_0 : decode cX3_count 0 = .ok (.iload_n 1, 1) := by decide +kernel
theorem dX3_count_1 : decode cX3_count 1 = .ok (.tableswitch 100 0 6 #[43, 51, 59, 67, 75, 84, 92], 43) := by decide +kernel
theorem dX3_count_44 : decode cX3_count 44 = .ok (.aload_n 0, 1) := by decide +kernel
theorem dX3_count_45 : decode cX3_count 45 = .ok (.getfield 10, 3) := by decide +kernel
theorem dX3_count_48 : decode cX3_count 48 = .ok (.getfield 116, 3) := by decide +kernel
theorem dX3_count_51 : decode cX3_count 51 = .ok (.ireturn, 1) := by decide +kernel
theorem dX3_count_52 : decode cX3_count 52 = .ok (.aload_n 0, 1) := by decide +kernel
theorem dX3_count_53 : decode cX3_count 53 = .ok (.getfield 10, 3) := by decide +kernel
theorem dX3_count_56 : decode cX3_count 56 = .ok (.getfield 62, 3) := by decide +kernel
theorem dX3_count_59 : decode cX3_count 59 = .ok (.ireturn, 1) := by decide +kernel
theorem dX3_count_60 : decode cX3_count 60 = .ok (.aload_n 0, 1) := by decide +kernel
theorem dX3_count_61 : decode cX3_count 61 = .ok (.getfield 10, 3) := by decide +kernel
theorem dX3_count_64 : decode cX3_count 64 = .ok (.invokevirtual 138, 3) := by decide +kernel
theorem dX3_count_67 : decode cX3_count 67 = .ok (.ireturn, 1) := by decide +kernel
theorem dX3_count_68 : decode cX3_count 68 = .ok (.aload_n 0, 1) := by decide +kernel
theorem dX3_count_69 : decode cX3_count 69 = .ok (.getfield 10, 3) := by decide +kernel
theorem dX3_count_72 : decode cX3_count 72 = .ok (.invokevirtual 141, 3) := by decide +kernel
theorem dX3_count_75 : decode cX3_count 75 = .ok (.ireturn, 1) := by decide +kernel
theorem dX3_count_76 : decode cX3_count 76 = .ok (.aload_n 0, 1) := by decide +kernel
theorem dX3_count_77 : decode cX3_count 77 = .ok (.getfield 10, 3) := by decide +kernel
theorem dX3_count_80 : decode cX3_count 80 = .ok (.iconst 4, 1) := by decide +kernel
theorem dX3_count_81 : decode cX3_count 81 = .ok (.invokevirtual 119, 3) := by decide +kernel
theorem dX3_count_84 : decode cX3_count 84 = .ok (.ireturn, 1) := by decide +kernel
theorem dX3_count_85 : decode cX3_count 85 = .ok (.aload_n 0, 1) := by decide +kernel
theorem dX3_count_86 : decode cX3_count 86 = .ok (.getfield 10, 3) := by decide +kernel
theorem dX3_count_89 : decode cX3_count 89 = .ok (.invokevirtual 144, 3) := by decide +kernel
theorem dX3_count_92 : decode cX3_count 92 = .ok (.ireturn, 1) := by decide +kernel
theorem dX3_count_93 : decode cX3_count 93 = .ok (.aload_n 0, 1) := by decide +kernel
theorem dX3_count_94 : decode cX3_count 94 = .ok (.getfield 10, 3) := by decide +kernel
theorem dX3_count_97 : decode cX3_count 97 = .ok (.getfield 147, 3) := by decide +kernel
theorem dX3_count_100 : decode cX3_count 100 = .ok (.ireturn, 1) := by decide +kernel
theorem dX3_count_101 : decode cX3_count 101 = .ok (.bipush (-102), 2) := by decide +kernel
theorem dX3_count_103 : decode cX3_count 103 = .ok (.ireturn, 1) := by decide +kernel
theorem dX3_digest_0 : decode cX3_digest 0 = .ok (.ldc2_w 150, 3) := by decide +kernel
theorem dX3_digest_3 : decode cX3_digest 3 = .ok (.lstore_n 1, 1) := by decide +kernel
theorem dX3_digest_4 : decode cX3_digest 4 = .ok (.ldc2_w 152, 3) := by decide +kernel
theorem dX3_digest_7 : decode cX3_digest 7 = .ok (.lload_n 1, 1) := by decide +kernel
theorem dX3_digest_8 : decode cX3_digest 8 = .ok (.lmul, 1) := by decide +kernel
theorem dX3_digest_9 : decode cX3_digest 9 = .ok (.aload_n 0, 1) := by decide +kernel
theorem dX3_digest_10 : decode cX3_digest 10 = .ok (.getfield 10, 3) := by decide +kernel
theorem dX3_digest_13 : decode cX3_digest 13 = .ok (.getfield 116, 3) := by decide +kernel
theorem dX3_digest_16 : decode cX3_digest 16 = .ok (.i2l, 1) := by decide +kernel
theorem dX3_digest_17 : decode cX3_digest 17 = .ok (.ladd, 1) := by decide +kernel
theorem dX3_digest_18 : decode cX3_digest 18 = .ok (.lstore_n 1, 1) := by decide +kernel
theorem dX3_digest_19 : decode cX3_digest 19 = .ok (.ldc2_w 152, 3) := by decide +kernel
theorem dX3_digest_22 : decode cX3_digest 22 = .ok (.lload_n 1, 1) := by decide +kernel
theorem dX3_digest_23 : decode cX3_digest 23 = .ok (.lmul, 1) := by decide +kernel
theorem dX3_digest_24 : decode cX3_digest 24 = .ok (.aload_n 0, 1) := by decide +kernel
theorem dX3_digest_25 : decode cX3_digest 25 = .ok (.getfield 10, 3) := by decide +kernel
theorem dX3_digest_28 : decode cX3_digest 28 = .ok (.getfield 62, 3) := by decide +kernel
theorem dX3_digest_31 : decode cX3_digest 31 = .ok (.i2l, 1) := by decide +kernel
theorem dX3_digest_32 : decode cX3_digest 32 = .ok (.ladd, 1) := by decide +kernel
theorem dX3_digest_33 : decode cX3_digest 33 = .ok (.lstore_n 1, 1) := by decide +kernel
theorem dX3_digest_34 : decode cX3_digest 34 = .ok (.iconst 0, 1) := by decide +kernel
theorem dX3_digest_35 : decode cX3_digest 35 = .ok (.istore_n 3, 1) := by decide +kernel
theorem dX3_digest_36 : decode cX3_digest 36 = .ok (.iload_n 3, 1) := by decide +kernel
theorem dX3_digest_37 : decode cX3_digest 37 = .ok (.aload_n 0, 1) := by decide +kernel
theorem dX3_digest_38 : decode cX3_digest 38 = .ok (.getfield 10, 3) := by decide +kernel
theorem dX3_digest_41 : decode cX3_digest 41 = .ok (.getfield 116, 3) := by decide +kernel
theorem dX3_digest_44 : decode cX3_digest 44 = .ok (.if_icmp .ge 81, 3) := by decide +kernel
theorem dX3_digest_47 : decode cX3_digest 47 = .ok (.ldc2_w 152, 3) := by decide +kernel
theorem dX3_digest_50 : decode cX3_digest 50 = .ok (.lload_n 1, 1) := by decide +kernel
theorem dX3_digest_51 : decode cX3_digest 51 = .ok (.lmul, 1) := by decide +kernel
theorem dX3_digest_52 : decode cX3_digest 52 = .ok (.aload_n 0, 1) := by decide +kernel
theorem dX3_digest_53 : decode cX3_digest 53 = .ok (.getfield 10, 3) := by decide +kernel
theorem dX3_digest_56 : decode cX3_digest 56 = .ok (.iload_n 3, 1) := by decide +kernel
theorem dX3_digest_57 : decode cX3_digest 57 = .ok (.invokevirtual 40, 3) := by decide +kernel
theorem dX3_digest_60 : decode cX3_digest 60 = .ok (.i2l, 1) := by decide +kernel
theorem dX3_digest_61 : decode cX3_digest 61 = .ok (.ladd, 1) := by decide +kernel
theorem dX3_digest_62 : decode cX3_digest 62 = .ok (.lstore_n 1, 1) := by decide +kernel
theorem dX3_digest_63 : decode cX3_digest 63 = .ok (.iconst 0, 1) := by decide +kernel
theorem dX3_digest_64 : decode cX3_digest 64 = .ok (.istore 4, 2) := by decide +kernel
theorem dX3_digest_66 : decode cX3_digest 66 = .ok (.iload 4, 2) := by decide +kernel
theorem dX3_digest_68 : decode cX3_digest 68 = .ok (.aload_n 0, 1) := by decide +kernel
theorem dX3_digest_69 : decode cX3_digest 69 = .ok (.getfield 10, 3) := by decide +kernel
theorem dX3_digest_72 : decode cX3_digest 72 = .ok (.getfield 116, 3) := by decide +kernel
theorem dX3_digest_75 : decode cX3_digest 75 = .ok (.if_icmp .ge 27, 3) := by decide +kernel
theorem dX3_digest_78 : decode cX3_digest 78 = .ok (.ldc2_w 152, 3) := by decide +kernel
theorem dX3_digest_81 : decode cX3_digest 81 = .ok (.lload_n 1, 1) := by decide +kernel
theorem dX3_digest_82 : decode cX3_digest 82 = .ok (.lmul, 1) := by decide +kernel
theorem dX3_digest_83 : decode cX3_digest 83 = .ok (.aload_n 0, 1) := by decide +kernel
theorem dX3_digest_84 : decode cX3_digest 84 = .ok (.getfield 10, 3) := by decide +kernel
theorem dX3_digest_87 : decode cX3_digest 87 = .ok (.iload_n 3, 1) := by decide +kernel
theorem dX3_digest_88 : decode cX3_digest 88 = .ok (.iload 4, 2) := by decide +kernel
theorem dX3_digest_90 : decode cX3_digest 90 = .ok (.invokevirtual 54, 3) := by decide +kernel
theorem dX3_digest_93 : decode cX3_digest 93 = .ok (.i2l, 1) := by decide +kernel
theorem dX3_digest_94 : decode cX3_digest 94 = .ok (.ladd, 1) := by decide +kernel
theorem dX3_digest_95 : decode cX3_digest 95 = .ok (.lstore_n 1, 1) := by decide +kernel
theorem dX3_digest_96 : decode cX3_digest 96 = .ok (.iinc 4 1, 3) := by decide +kernel
theorem dX3_digest_99 : decode cX3_digest 99 = .ok (.goto (-33), 3) := by decide +kernel
theorem dX3_digest_102 : decode cX3_digest 102 = .ok (.ldc2_w 152, 3) := by decide +kernel
theorem dX3_digest_105 : decode cX3_digest 105 = .ok (.lload_n 1, 1) := by decide +kernel
theorem dX3_digest_106 : decode cX3_digest 106 = .ok (.lmul, 1) := by decide +kernel
theorem dX3_digest_107 : decode cX3_digest 107 = .ok (.aload_n 0, 1) := by decide +kernel
theorem dX3_digest_108 : decode cX3_digest 108 = .ok (.getfield 10, 3) := by decide +kernel
theorem dX3_digest_111 : decode cX3_digest 111 = .ok (.iload_n 3, 1) := by decide +kernel
theorem dX3_digest_112 : decode cX3_digest 112 = .ok (.iconst 4, 1) := by decide +kernel
theorem dX3_digest_113 : decode cX3_digest 113 = .ok (.invokevirtual 54, 3) := by decide +kernel
theorem dX3_digest_116 : decode cX3_digest 116 = .ok (.i2l, 1) := by decide +kernel
theorem dX3_digest_117 : decode cX3_digest 117 = .ok (.ladd, 1) := by decide +kernel
theorem dX3_digest_118 : decode cX3_digest 118 = .ok (.lstore_n 1, 1) := by decide +kernel
theorem dX3_digest_119 : decode cX3_digest 119 = .ok (.iinc 3 1, 3) := by decide +kernel
theorem dX3_digest_122 : decode cX3_digest 122 = .ok (.goto (-86), 3) := by decide +kernel
theorem dX3_digest_125 : decode cX3_digest 125 = .ok (.aload_n 0, 1) := by decide +kernel
theorem dX3_digest_126 : decode cX3_digest 126 = .ok (.getfield 21, 3) := by decide +kernel
theorem dX3_digest_129 : decode cX3_digest 129 = .ok (.iconst (-1), 1) := by decide +kernel
theorem dX3_digest_130 : decode cX3_digest 130 = .ok (.invokevirtual 69, 3) := by decide +kernel
theorem dX3_digest_133 : decode cX3_digest 133 = .ok (.iconst 0, 1) := by decide +kernel
theorem dX3_digest_134 : decode cX3_digest 134 = .ok (.istore_n 3, 1) := by decide +kernel
theorem dX3_digest_135 : decode cX3_digest 135 = .ok (.iload_n 3, 1) := by decide +kernel
theorem dX3_digest_136 : decode cX3_digest 136 = .ok (.aload_n 0, 1) := by decide +kernel
theorem dX3_digest_137 : decode cX3_digest 137 = .ok (.getfield 10, 3) := by decide +kernel
theorem dX3_digest_140 : decode cX3_digest 140 = .ok (.getfield 116, 3) := by decide +kernel
theorem dX3_digest_143 : decode cX3_digest 143 = .ok (.if_icmp .ge 77, 3) := by decide +kernel
theorem dX3_digest_146 : decode cX3_digest 146 = .ok (.ldc2_w 152, 3) := by decide +kernel
theorem dX3_digest_149 : decode cX3_digest 149 = .ok (.lload_n 1, 1) := by decide +kernel
theorem dX3_digest_150 : decode cX3_digest 150 = .ok (.lmul, 1) := by decide +kernel
theorem dX3_digest_151 : decode cX3_digest 151 = .ok (.aload_n 0, 1) := by decide +kernel
theorem dX3_digest_152 : decode cX3_digest 152 = .ok (.getfield 21, 3) := by decide +kernel
theorem dX3_digest_155 : decode cX3_digest 155 = .ok (.iload_n 3, 1) := by decide +kernel
theorem dX3_digest_156 : decode cX3_digest 156 = .ok (.invokevirtual 72, 3) := by decide +kernel
theorem dX3_digest_159 : decode cX3_digest 159 = .ok (.i2l, 1) := by decide +kernel
theorem dX3_digest_160 : decode cX3_digest 160 = .ok (.ladd, 1) := by decide +kernel
theorem dX3_digest_161 : decode cX3_digest 161 = .ok (.lstore_n 1, 1) := by decide +kernel
theorem dX3_digest_162 : decode cX3_digest 162 = .ok (.ldc2_w 152, 3) := by decide +kernel
theorem dX3_digest_165 : decode cX3_digest 165 = .ok (.lload_n 1, 1) := by decide +kernel
theorem dX3_digest_166 : decode cX3_digest 166 = .ok (.lmul, 1) := by decide +kernel
theorem dX3_digest_167 : decode cX3_digest 167 = .ok (.aload_n 0, 1) := by decide +kernel
theorem dX3_digest_168 : decode cX3_digest 168 = .ok (.getfield 21, 3) := by decide +kernel
theorem dX3_digest_171 : decode cX3_digest 171 = .ok (.iload_n 3, 1) := by decide +kernel
theorem dX3_digest_172 : decode cX3_digest 172 = .ok (.invokevirtual 85, 3) := by decide +kernel
theorem dX3_digest_175 : decode cX3_digest 175 = .ok (.aload_n 0, 1) := by decide +kernel
theorem dX3_digest_176 : decode cX3_digest 176 = .ok (.getfield 21, 3) := by decide +kernel
theorem dX3_digest_179 : decode cX3_digest 179 = .ok (.getfield 89, 3) := by decide +kernel
theorem dX3_digest_182 : decode cX3_digest 182 = .ok (.iconst 0, 1) := by decide +kernel
theorem dX3_digest_183 : decode cX3_digest 183 = .ok (.invokestatic 93, 3) := by decide +kernel
theorem dX3_digest_186 : decode cX3_digest 186 = .ok (.ladd, 1) := by decide +kernel
theorem dX3_digest_187 : decode cX3_digest 187 = .ok (.lstore_n 1, 1) := by decide +kernel
theorem dX3_digest_188 : decode cX3_digest 188 = .ok (.ldc2_w 152, 3) := by decide +kernel
theorem dX3_digest_191 : decode cX3_digest 191 = .ok (.lload_n 1, 1) := by decide +kernel
theorem dX3_digest_192 : decode cX3_digest 192 = .ok (.lmul, 1) := by decide +kernel
theorem dX3_digest_193 : decode cX3_digest 193 = .ok (.aload_n 0, 1) := by decide +kernel
theorem dX3_digest_194 : decode cX3_digest 194 = .ok (.getfield 21, 3) := by decide +kernel
theorem dX3_digest_197 : decode cX3_digest 197 = .ok (.iload_n 3, 1) := by decide +kernel
theorem dX3_digest_198 : decode cX3_digest 198 = .ok (.invokevirtual 85, 3) := by decide +kernel
theorem dX3_digest_201 : decode cX3_digest 201 = .ok (.aload_n 0, 1) := by decide +kernel
theorem dX3_digest_202 : decode cX3_digest 202 = .ok (.getfield 21, 3) := by decide +kernel
theorem dX3_digest_205 : decode cX3_digest 205 = .ok (.getfield 89, 3) := by decide +kernel
theorem dX3_digest_208 : decode cX3_digest 208 = .ok (.iconst 1, 1) := by decide +kernel
theorem dX3_digest_209 : decode cX3_digest 209 = .ok (.invokestatic 93, 3) := by decide +kernel
theorem dX3_digest_212 : decode cX3_digest 212 = .ok (.ladd, 1) := by decide +kernel
theorem dX3_digest_213 : decode cX3_digest 213 = .ok (.lstore_n 1, 1) := by decide +kernel
theorem dX3_digest_214 : decode cX3_digest 214 = .ok (.iinc 3 1, 3) := by decide +kernel
theorem dX3_digest_217 : decode cX3_digest 217 = .ok (.goto (-82), 3) := by decide +kernel
theorem dX3_digest_220 : decode cX3_digest 220 = .ok (.ldc2_w 152, 3) := by decide +kernel
theorem dX3_digest_223 : decode cX3_digest 223 = .ok (.lload_n 1, 1) := by decide +kernel
theorem dX3_digest_224 : decode cX3_digest 224 = .ok (.lmul, 1) := by decide +kernel
theorem dX3_digest_225 : decode cX3_digest 225 = .ok (.aload_n 0, 1) := by decide +kernel
theorem dX3_digest_226 : decode cX3_digest 226 = .ok (.getfield 10, 3) := by decide +kernel
theorem dX3_digest_229 : decode cX3_digest 229 = .ok (.getfield 147, 3) := by decide +kernel
theorem dX3_digest_232 : decode cX3_digest 232 = .ok (.i2l, 1) := by decide +kernel
theorem dX3_digest_233 : decode cX3_digest 233 = .ok (.ladd, 1) := by decide +kernel
theorem dX3_digest_234 : decode cX3_digest 234 = .ok (.lreturn, 1) := by decide +kernel
theorem dX3_isPart_0 : decode cX3_isPart 0 = .ok (.iload_n 0, 1) := by decide +kernel
theorem dX3_isPart_1 : decode cX3_isPart 1 = .ok (.ifCond .eq 8, 3) := by decide +kernel
theorem dX3_isPart_4 : decode cX3_isPart 4 = .ok (.iload_n 0, 1) := by decide +kernel
theorem dX3_isPart_5 : decode cX3_isPart 5 = .ok (.iconst 1, 1) := by decide +kernel
theorem dX3_isPart_6 : decode cX3_isPart 6 = .ok (.if_icmp .ne 7, 3) := by decide +kernel
theorem dX3_isPart_9 : decode cX3_isPart 9 = .ok (.iconst 1, 1) := by decide +kernel
theorem dX3_isPart_10 : decode cX3_isPart 10 = .ok (.goto 4, 3) := by decide +kernel
theorem dX3_isPart_13 : decode cX3_isPart 13 = .ok (.iconst 0, 1) := by decide +kernel
theorem dX3_isPart_14 : decode cX3_isPart 14 = .ok (.ireturn, 1) := by decide +kernel
theorem dX3_lowestTerms_0 : decode cX3_lowestTerms 0 = .ok (.lload_n 0, 1) := by decide +kernel
theorem dX3_lowestTerms_1 : decode cX3_lowestTerms 1 = .ok (.lload_n 2, 1) := by decide +kernel
theorem dX3_lowestTerms_2 : decode cX3_lowestTerms 2 = .ok (.invokestatic 154, 3) := by decide +kernel
theorem dX3_lowestTerms_5 : decode cX3_lowestTerms 5 = .ok (.lstore 5, 2) := by decide +kernel
theorem dX3_lowestTerms_7 : decode cX3_lowestTerms 7 = .ok (.lload 5, 2) := by decide +kernel
theorem dX3_lowestTerms_9 : decode cX3_lowestTerms 9 = .ok (.lconst 0, 1) := by decide +kernel
theorem dX3_lowestTerms_10 : decode cX3_lowestTerms 10 = .ok (.lcmp, 1) := by decide +kernel
theorem dX3_lowestTerms_11 : decode cX3_lowestTerms 11 = .ok (.ifCond .ne 5, 3) := by decide +kernel
theorem dX3_lowestTerms_14 : decode cX3_lowestTerms 14 = .ok (.lconst 0, 1) := by decide +kernel
theorem dX3_lowestTerms_15 : decode cX3_lowestTerms 15 = .ok (.lreturn, 1) := by decide +kernel
theorem dX3_lowestTerms_16 : decode cX3_lowestTerms 16 = .ok (.iload 4, 2) := by decide +kernel
theorem dX3_lowestTerms_18 : decode cX3_lowestTerms 18 = .ok (.ifCond .ne 7, 3) := by decide +kernel
theorem dX3_lowestTerms_21 : decode cX3_lowestTerms 21 = .ok (.lload_n 0, 1) := by decide +kernel
theorem dX3_lowestTerms_22 : decode cX3_lowestTerms 22 = .ok (.goto 4, 3) := by decide +kernel
theorem dX3_lowestTerms_25 : decode cX3_lowestTerms 25 = .ok (.lload_n 2, 1) := by decide +kernel
theorem dX3_lowestTerms_26 : decode cX3_lowestTerms 26 = .ok (.lload 5, 2) := by decide +kernel
theorem dX3_lowestTerms_28 : decode cX3_lowestTerms 28 = .ok (.ldiv, 1) := by decide +kernel
theorem dX3_lowestTerms_29 : decode cX3_lowestTerms 29 = .ok (.lreturn, 1) := by decide +kernel
theorem dX3_commonDivisor_0 : decode cX3_commonDivisor 0 = .ok (.lload_n 0, 1) := by decide +kernel
theorem dX3_commonDivisor_1 : decode cX3_commonDivisor 1 = .ok (.invokestatic 158, 3) := by decide +kernel
theorem dX3_commonDivisor_4 : decode cX3_commonDivisor 4 = .ok (.lstore 4, 2) := by decide +kernel
theorem dX3_commonDivisor_6 : decode cX3_commonDivisor 6 = .ok (.lload_n 2, 1) := by decide +kernel
theorem dX3_commonDivisor_7 : decode cX3_commonDivisor 7 = .ok (.invokestatic 158, 3) := by decide +kernel
theorem dX3_commonDivisor_10 : decode cX3_commonDivisor 10 = .ok (.lstore 6, 2) := by decide +kernel
theorem dX3_commonDivisor_12 : decode cX3_commonDivisor 12 = .ok (.iconst 0, 1) := by decide +kernel
theorem dX3_commonDivisor_13 : decode cX3_commonDivisor 13 = .ok (.istore 8, 2) := by decide +kernel
theorem dX3_commonDivisor_15 : decode cX3_commonDivisor 15 = .ok (.iload 8, 2) := by decide +kernel
theorem dX3_commonDivisor_17 : decode cX3_commonDivisor 17 = .ok (.sipush 200, 3) := by decide +kernel
theorem dX3_commonDivisor_20 : decode cX3_commonDivisor 20 = .ok (.if_icmp .ge 31, 3) := by decide +kernel
theorem dX3_commonDivisor_23 : decode cX3_commonDivisor 23 = .ok (.lload 6, 2) := by decide +kernel
theorem dX3_commonDivisor_25 : decode cX3_commonDivisor 25 = .ok (.lconst 0, 1) := by decide +kernel
theorem dX3_commonDivisor_26 : decode cX3_commonDivisor 26 = .ok (.lcmp, 1) := by decide +kernel
theorem dX3_commonDivisor_27 : decode cX3_commonDivisor 27 = .ok (.ifCond .eq 24, 3) := by decide +kernel
theorem dX3_commonDivisor_30 : decode cX3_commonDivisor 30 = .ok (.lload 4, 2) := by decide +kernel
theorem dX3_commonDivisor_32 : decode cX3_commonDivisor 32 = .ok (.lload 6, 2) := by decide +kernel
theorem dX3_commonDivisor_34 : decode cX3_commonDivisor 34 = .ok (.lrem, 1) := by decide +kernel
theorem dX3_commonDivisor_35 : decode cX3_commonDivisor 35 = .ok (.lstore 9, 2) := by decide +kernel
theorem dX3_commonDivisor_37 : decode cX3_commonDivisor 37 = .ok (.lload 6, 2) := by decide +kernel
theorem dX3_commonDivisor_39 : decode cX3_commonDivisor 39 = .ok (.lstore 4, 2) := by decide +kernel
theorem dX3_commonDivisor_41 : decode cX3_commonDivisor 41 = .ok (.lload 9, 2) := by decide +kernel
theorem dX3_commonDivisor_43 : decode cX3_commonDivisor 43 = .ok (.lstore 6, 2) := by decide +kernel
theorem dX3_commonDivisor_45 : decode cX3_commonDivisor 45 = .ok (.iinc 8 1, 3) := by decide +kernel
theorem dX3_commonDivisor_48 : decode cX3_commonDivisor 48 = .ok (.goto (-33), 3) := by decide +kernel
theorem dX3_commonDivisor_51 : decode cX3_commonDivisor 51 = .ok (.lload 4, 2) := by decide +kernel
theorem dX3_commonDivisor_53 : decode cX3_commonDivisor 53 = .ok (.lreturn, 1) := by decide +kernel
theorem dX3_at_0 : decode cX3_at 0 = .ok (.aload_n 0, 1) := by decide +kernel
theorem dX3_at_1 : decode cX3_at 1 = .ok (.ifnull 19, 3) := by decide +kernel
theorem dX3_at_4 : decode cX3_at 4 = .ok (.iload_n 1, 1) := by decide +kernel
theorem dX3_at_5 : decode cX3_at 5 = .ok (.ifCond .lt 15, 3) := by decide +kernel
theorem dX3_at_8 : decode cX3_at 8 = .ok (.iload_n 1, 1) := by decide +kernel
theorem dX3_at_9 : decode cX3_at 9 = .ok (.aload_n 0, 1) := by decide +kernel
theorem dX3_at_10 : decode cX3_at 10 = .ok (.arraylength, 1) := by decide +kernel
theorem dX3_at_11 : decode cX3_at 11 = .ok (.if_icmp .ge 9, 3) := by decide +kernel
theorem dX3_at_14 : decode cX3_at 14 = .ok (.aload_n 0, 1) := by decide +kernel
theorem dX3_at_15 : decode cX3_at 15 = .ok (.iload_n 1, 1) := by decide +kernel
theorem dX3_at_16 : decode cX3_at 16 = .ok (.iaload, 1) := by decide +kernel
theorem dX3_at_17 : decode cX3_at 17 = .ok (.goto 4, 3) := by decide +kernel
theorem dX3_at_20 : decode cX3_at 20 = .ok (.iconst 0, 1) := by decide +kernel
theorem dX3_at_21 : decode cX3_at 21 = .ok (.ireturn, 1) := by decide +kernel
theorem dX3_put_0 : decode cX3_put 0 = .ok (.aload_n 0, 1) := by decide +kernel
theorem dX3_put_1 : decode cX3_put 1 = .ok (.ifnull 17, 3) := by decide +kernel
theorem dX3_put_4 : decode cX3_put 4 = .ok (.iload_n 1, 1) := by decide +kernel
theorem dX3_put_5 : decode cX3_put 5 = .ok (.ifCond .lt 13, 3) := by decide +kernel
theorem dX3_put_8 : decode cX3_put 8 = .ok (.iload_n 1, 1) := by decide +kernel
theorem dX3_put_9 : decode cX3_put 9 = .ok (.aload_n 0, 1) := by decide +kernel
theorem dX3_put_10 : decode cX3_put 10 = .ok (.arraylength, 1) := by decide +kernel
theorem dX3_put_11 : decode cX3_put 11 = .ok (.if_icmp .ge 7, 3) := by decide +kernel
theorem dX3_put_14 : decode cX3_put 14 = .ok (.aload_n 0, 1) := by decide +kernel
theorem dX3_put_15 : decode cX3_put 15 = .ok (.iload_n 1, 1) := by decide +kernel
theorem dX3_put_16 : decode cX3_put 16 = .ok (.iload_n 2, 1) := by decide +kernel
theorem dX3_put_17 : decode cX3_put 17 = .ok (.iastore, 1) := by decide +kernel
theorem dX3_put_18 : decode cX3_put 18 = .ok (.return_, 1) := by decide +kernel
theorem dX3_longAt_0 : decode cX3_longAt 0 = .ok (.aload_n 0, 1) := by decide +kernel
theorem dX3_longAt_1 : decode cX3_longAt 1 = .ok (.ifnull 19, 3) := by decide +kernel
theorem dX3_longAt_4 : decode cX3_longAt 4 = .ok (.iload_n 1, 1) := by decide +kernel
theorem dX3_longAt_5 : decode cX3_longAt 5 = .ok (.ifCond .lt 15, 3) := by decide +kernel
theorem dX3_longAt_8 : decode cX3_longAt 8 = .ok (.iload_n 1, 1) := by decide +kernel
theorem dX3_longAt_9 : decode cX3_longAt 9 = .ok (.aload_n 0, 1) := by decide +kernel
theorem dX3_longAt_10 : decode cX3_longAt 10 = .ok (.arraylength, 1) := by decide +kernel
theorem dX3_longAt_11 : decode cX3_longAt 11 = .ok (.if_icmp .ge 9, 3) := by decide +kernel
theorem dX3_longAt_14 : decode cX3_longAt 14 = .ok (.aload_n 0, 1) := by decide +kernel
theorem dX3_longAt_15 : decode cX3_longAt 15 = .ok (.iload_n 1, 1) := by decide +kernel
theorem dX3_longAt_16 : decode cX3_longAt 16 = .ok (.laload, 1) := by decide +kernel
theorem dX3_longAt_17 : decode cX3_longAt 17 = .ok (.goto 4, 3) := by decide +kernel
theorem dX3_longAt_20 : decode cX3_longAt 20 = .ok (.lconst 0, 1) := by decide +kernel
theorem dX3_longAt_21 : decode cX3_longAt 21 = .ok (.lreturn, 1) := by decide +kernel
theorem dX3_putLong_0 : decode cX3_putLong 0 = .ok (.aload_n 0, 1) := by decide +kernel
theorem dX3_putLong_1 : decode cX3_putLong 1 = .ok (.ifnull 17, 3) := by decide +kernel
theorem dX3_putLong_4 : decode cX3_putLong 4 = .ok (.iload_n 1, 1) := by decide +kernel
theorem dX3_putLong_5 : decode cX3_putLong 5 = .ok (.ifCond .lt 13, 3) := by decide +kernel
theorem dX3_putLong_8 : decode cX3_putLong 8 = .ok (.iload_n 1, 1) := by decide +kernel
theorem dX3_putLong_9 : decode cX3_putLong 9 = .ok (.aload_n 0, 1) := by decide +kernel
theorem dX3_putLong_10 : decode cX3_putLong 10 = .ok (.arraylength, 1) := by decide +kernel
theorem dX3_putLong_11 : decode cX3_putLong 11 = .ok (.if_icmp .ge 7, 3) := by decide +kernel
theorem dX3_putLong_14 : decode cX3_putLong 14 = .ok (.aload_n 0, 1) := by decide +kernel
theorem dX3_putLong_15 : decode cX3_putLong 15 = .ok (.iload_n 1, 1) := by decide +kernel
theorem dX3_putLong_16 : decode cX3_putLong 16 = .ok (.lload_n 2, 1) := by decide +kernel
theorem dX3_putLong_17 : decode cX3_putLong 17 = .ok (.lastore, 1) := by decide +kernel
theorem dX3_putLong_18 : decode cX3_putLong 18 = .ok (.return_, 1) := by decide +kernel
end
section
theorem dX4_init_0 : decode cX4_init 0 = .ok (.aload_n 0, 1) := by decide +kernel
theorem dX4_init_1 : decode cX4_init 1 = .ok (.invokespecial 1, 3) := by decide +kernel
theorem dX4_init_4 : decode cX4_init 4 = .ok (.aload_n 0, 1) := by decide +kernel
theorem dX4_init_5 : decode cX4_init 5 = .ok (.iconst 1, 1) := by decide +kernel
theorem dX4_init_6 : decode cX4_init 6 = .ok (.putfield 7, 3) := by decide +kernel
theorem dX4_init_9 : decode cX4_init 9 = .ok (.aload_n 0, 1) := by decide +kernel
theorem dX4_init_10 : decode cX4_init 10 = .ok (.iconst 4, 1) := by decide +kernel
theorem dX4_init_11 : decode cX4_init 11 = .ok (.newarray .long, 2) := by decide +kernel
theorem dX4_init_13 : decode cX4_init 13 = .ok (.putfield 13, 3) := by decide +kernel
theorem dX4_init_16 : decode cX4_init 16 = .ok (.aload_n 0, 1) := by decide +kernel
theorem dX4_init_17 : decode cX4_init 17 = .ok (.bipush 20, 2) := by decide +kernel
theorem dX4_init_19 : decode cX4_init 19 = .ok (.newarray .int, 2) := by decide +kernel
theorem dX4_init_21 : decode cX4_init 21 = .ok (.putfield 17, 3) := by decide +kernel
theorem dX4_init_24 : decode cX4_init 24 = .ok (.aload_n 0, 1) := by decide +kernel
theorem dX4_init_25 : decode cX4_init 25 = .ok (.iconst 4, 1) := by decide +kernel
theorem dX4_init_26 : decode cX4_init 26 = .ok (.newarray .int, 2) := by decide +kernel
theorem dX4_init_28 : decode cX4_init 28 = .ok (.putfield 21, 3) := by decide +kernel
theorem dX4_init_31 : decode cX4_init 31 = .ok (.aload_n 0, 1) := by decide +kernel
theorem dX4_init_32 : decode cX4_init 32 = .ok (.iconst 4, 1) := by decide +kernel
theorem dX4_init_33 : decode cX4_init 33 = .ok (.newarray .long, 2) := by decide +kernel
theorem dX4_init_35 : decode cX4_init 35 = .ok (.putfield 24, 3) := by decide +kernel
theorem dX4_init_38 : decode cX4_init 38 = .ok (.aload_n 0, 1) := by decide +kernel
theorem dX4_init_39 : decode cX4_init 39 = .ok (.bipush 16, 2) := by decide +kernel
theorem dX4_init_41 : decode cX4_init 41 = .ok (.newarray .long, 2) := by decide +kernel
theorem dX4_init_43 : decode cX4_init 43 = .ok (.putfield 27, 3) := by decide +kernel
theorem dX4_init_46 : decode cX4_init 46 = .ok (.aload_n 0, 1) := by decide +kernel
theorem dX4_init_47 : decode cX4_init 47 = .ok (.iconst 4, 1) := by decide +kernel
theorem dX4_init_48 : decode cX4_init 48 = .ok (.newarray .long, 2) := by decide +kernel
theorem dX4_init_50 : decode cX4_init 50 = .ok (.putfield 30, 3) := by decide +kernel
theorem dX4_init_53 : decode cX4_init 53 = .ok (.aload_n 0, 1) := by decide +kernel
theorem dX4_init_54 : decode cX4_init 54 = .ok (.bipush 16, 2) := by decide +kernel
theorem dX4_init_56 : decode cX4_init 56 = .ok (.newarray .long, 2) := by decide +kernel
theorem dX4_init_58 : decode cX4_init 58 = .ok (.putfield 33, 3) := by decide +kernel
theorem dX4_init_61 : decode cX4_init 61 = .ok (.aload_n 0, 1) := by decide +kernel
theorem dX4_init_62 : decode cX4_init 62 = .ok (.iconst 4, 1) := by decide +kernel
theorem dX4_init_63 : decode cX4_init 63 = .ok (.newarray .boolean, 2) := by decide +kernel
theorem dX4_init_65 : decode cX4_init 65 = .ok (.putfield 36, 3) := by decide +kernel
theorem dX4_init_68 : decode cX4_init 68 = .ok (.aload_n 0, 1) := by decide +kernel
theorem dX4_init_69 : decode cX4_init 69 = .ok (.iconst 4, 1) := by decide +kernel
theorem dX4_init_70 : decode cX4_init 70 = .ok (.newarray .int, 2) := by decide +kernel
theorem dX4_init_72 : decode cX4_init 72 = .ok (.putfield 40, 3) := by decide +kernel
theorem dX4_init_75 : decode cX4_init 75 = .ok (.aload_n 0, 1) := by decide +kernel
theorem dX4_init_76 : decode cX4_init 76 = .ok (.iconst 4, 1) := by decide +kernel
theorem dX4_init_77 : decode cX4_init 77 = .ok (.newarray .int, 2) := by decide +kernel
theorem dX4_init_79 : decode cX4_init 79 = .ok (.putfield 43, 3) := by decide +kernel
theorem dX4_init_82 : decode cX4_init 82 = .ok (.return_, 1) := by decide +kernel
theorem dX4_in_0 : decode cX4_in 0 = .ok (.iload_n 0, 1) := by decide +kernel
theorem dX4_in_1 : decode cX4_in 1 = .ok (.iload_n 1, 1) := by decide +kernel
theorem dX4_in_2 : decode cX4_in 2 = .ok (.if_icmp .lt 12, 3) := by decide +kernel
theorem dX4_in_5 : decode cX4_in 5 = .ok (.iload_n 0, 1) := by decide +kernel
theorem dX4_in_6 : decode cX4_in 6 = .ok (.iload_n 2, 1) := by decide +kernel
theorem dX4_in_7 : decode cX4_in 7 = .ok (.if_icmp .gt 7, 3) := by decide +kernel
theorem dX4_in_10 : decode cX4_in 10 = .ok (.iconst 1, 1) := by decide +kernel
theorem dX4_in_11 : decode cX4_in 11 = .ok (.goto 4, 3) := by decide +kernel
theorem dX4_in_14 : decode cX4_in 14 = .ok (.iconst 0, 1) := by decide +kernel
theorem dX4_in_15 : decode cX4_in 15 = .ok (.ireturn, 1) := by decide +kernel
theorem dX4_isHouse_0 : decode cX4_isHouse 0 = .ok (.iload_n 1, 1) := by decide +kernel
theorem dX4_isHouse_1 : decode cX4_isHouse 1 = .ok (.iconst 0, 1) := by decide +kernel
theorem dX4_isHouse_2 : decode cX4_isHouse 2 = .ok (.aload_n 0, 1) := by decide +kernel
theorem dX4_isHouse_3 : decode cX4_isHouse 3 = .ok (.getfield 7, 3) := by decide +kernel
theorem dX4_isHouse_6 : decode cX4_isHouse 6 = .ok (.iconst 1, 1) := by decide +kernel
theorem dX4_isHouse_7 : decode cX4_isHouse 7 = .ok (.isub, 1) := by decide +kernel
theorem dX4_isHouse_8 : decode cX4_isHouse 8 = .ok (.invokestatic 46, 3) := by decide +kernel
theorem dX4_isHouse_11 : decode cX4_isHouse 11 = .ok (.ireturn, 1) := by decide +kernel
theorem dX4_houses_0 : decode cX4_houses 0 = .ok (.iload_n 1, 1) := by decide +kernel
theorem dX4_houses_1 : decode cX4_houses 1 = .ok (.iconst 1, 1) := by decide +kernel
theorem dX4_houses_2 : decode cX4_houses 2 = .ok (.iconst 4, 1) := by decide +kernel
theorem dX4_houses_3 : decode cX4_houses 3 = .ok (.invokestatic 46, 3) := by decide +kernel
theorem dX4_houses_6 : decode cX4_houses 6 = .ok (.ifCond .ne 6, 3) := by decide +kernel
theorem dX4_houses_9 : decode cX4_houses 9 = .ok (.bipush (-102), 2) := by decide +kernel
theorem dX4_houses_11 : decode cX4_houses 11 = .ok (.ireturn, 1) := by decide +kernel
theorem dX4_houses_12 : decode cX4_houses 12 = .ok (.aload_n 0, 1) := by decide +kernel
theorem dX4_houses_13 : decode cX4_houses 13 = .ok (.iload_n 1, 1) := by decide +kernel
theorem dX4_houses_14 : decode cX4_houses 14 = .ok (.putfield 7, 3) := by decide +kernel
theorem dX4_houses_17 : decode cX4_houses 17 = .ok (.aload_n 0, 1) := by decide +kernel
theorem dX4_houses_18 : decode cX4_houses 18 = .ok (.iconst 0, 1) := by decide +kernel
theorem dX4_houses_19 : decode cX4_houses 19 = .ok (.putfield 50, 3) := by decide +kernel
theorem dX4_houses_22 : decode cX4_houses 22 = .ok (.aload_n 0, 1) := by decide +kernel
theorem dX4_houses_23 : decode cX4_houses 23 = .ok (.lconst 0, 1) := by decide +kernel
theorem dX4_houses_24 : decode cX4_houses 24 = .ok (.putfield 53, 3) := by decide +kernel
theorem dX4_houses_27 : decode cX4_houses 27 = .ok (.iconst 0, 1) := by decide +kernel
theorem dX4_houses_28 : decode cX4_houses 28 = .ok (.istore_n 2, 1) := by decide +kernel
theorem dX4_houses_29 : decode cX4_houses 29 = .ok (.iload_n 2, 1) := by decide +kernel
theorem dX4_houses_30 : decode cX4_houses 30 = .ok (.bipush 20, 2) := by decide +kernel
theorem dX4_houses_32 : decode cX4_houses 32 = .ok (.if_icmp .ge 25, 3) := by decide +kernel
theorem dX4_houses_35 : decode cX4_houses 35 = .ok (.aload_n 0, 1) := by decide +kernel
theorem dX4_houses_36 : decode cX4_houses 36 = .ok (.getfield 17, 3) := by decide +kernel
theorem dX4_houses_39 : decode cX4_houses 39 = .ok (.iload_n 2, 1) := by decide +kernel
theorem dX4_houses_40 : decode cX4_houses 40 = .ok (.iconst 0, 1) := by decide +kernel
theorem dX4_houses_41 : decode cX4_houses 41 = .ok (.iastore, 1) := by decide +kernel
theorem dX4_houses_42 : decode cX4_houses 42 = .ok (.aload_n 0, 1) := by decide +kernel
theorem dX4_houses_43 : decode cX4_houses 43 = .ok (.getfield 13, 3) := by decide +kernel
theorem dX4_houses_46 : decode cX4_houses 46 = .ok (.iload_n 2, 1) := by decide +kernel
theorem dX4_houses_47 : decode cX4_houses 47 = .ok (.iconst 5, 1) := by decide +kernel
theorem dX4_houses_48 : decode cX4_houses 48 = .ok (.idiv, 1) := by decide +kernel
theorem dX4_houses_49 : decode cX4_houses 49 = .ok (.lconst 0, 1) := by decide +kernel
theorem dX4_houses_50 : decode cX4_houses 50 = .ok (.lastore, 1) := by decide +kernel
theorem dX4_houses_51 : decode cX4_houses 51 = .ok (.iinc 2 1, 3) := by decide +kernel
theorem dX4_houses_54 : decode cX4_houses 54 = .ok (.goto (-25), 3) := by decide +kernel
theorem dX4_houses_57 : decode cX4_houses 57 = .ok (.iload_n 1, 1) := by decide +kernel
theorem dX4_houses_58 : decode cX4_houses 58 = .ok (.ireturn, 1) := by decide +kernel
theorem dX4_cash_0 : decode cX4_cash 0 = .ok (.aload_n 0, 1) := by decide +kernel
theorem dX4_cash_1 : decode cX4_cash 1 = .ok (.iload_n 1, 1) := by decide +kernel
theorem dX4_cash_2 : decode cX4_cash 2 = .ok (.invokevirtual 57, 3) := by decide +kernel
theorem dX4_cash_5 : decode cX4_cash 5 = .ok (.ifCond .ne 6, 3) := by decide +kernel
theorem dX4_cash_8 : decode cX4_cash 8 = .ok (.bipush (-101), 2) := by decide +kernel
theorem dX4_cash_10 : decode cX4_cash 10 = .ok (.ireturn, 1) := by decide +kernel
theorem dX4_cash_11 : decode cX4_cash 11 = .ok (.iload_n 2, 1) := by decide +kernel
theorem dX4_cash_12 : decode cX4_cash 12 = .ok (.iconst 0, 1) := by decide +kernel
theorem dX4_cash_13 : decode cX4_cash 13 = .ok (.sipush 1000, 3) := by decide +kernel
theorem dX4_cash_16 : decode cX4_cash 16 = .ok (.invokestatic 46, 3) := by decide +kernel
theorem dX4_cash_19 : decode cX4_cash 19 = .ok (.ifCond .ne 6, 3) := by decide +kernel
theorem dX4_cash_22 : decode cX4_cash 22 = .ok (.bipush (-102), 2) := by decide +kernel
theorem dX4_cash_24 : decode cX4_cash 24 = .ok (.ireturn, 1) := by decide +kernel
theorem dX4_cash_25 : decode cX4_cash 25 = .ok (.aload_n 0, 1) := by decide +kernel
theorem dX4_cash_26 : decode cX4_cash 26 = .ok (.getfield 13, 3) := by decide +kernel
theorem dX4_cash_29 : decode cX4_cash 29 = .ok (.iload_n 1, 1) := by decide +kernel
theorem dX4_cash_30 : decode cX4_cash 30 = .ok (.laload, 1) := by decide +kernel
theorem dX4_cash_31 : decode cX4_cash 31 = .ok (.l2i, 1) := by decide +kernel
theorem dX4_cash_32 : decode cX4_cash 32 = .ok (.istore_n 3, 1) := by decide +kernel
theorem dX4_cash_33 : decode cX4_cash 33 = .ok (.aload_n 0, 1) := by decide +kernel
theorem dX4_cash_34 : decode cX4_cash 34 = .ok (.getfield 13, 3) := by decide +kernel
theorem dX4_cash_37 : decode cX4_cash 37 = .ok (.iload_n 1, 1) := by decide +kernel
theorem dX4_cash_38 : decode cX4_cash 38 = .ok (.iload_n 2, 1) := by decide +kernel
theorem dX4_cash_39 : decode cX4_cash 39 = .ok (.i2l, 1) := by decide +kernel
theorem dX4_cash_40 : decode cX4_cash 40 = .ok (.lastore, 1) := by decide +kernel
theorem dX4_cash_41 : decode cX4_cash 41 = .ok (.iload_n 3, 1) := by decide +kernel
theorem dX4_cash_42 : decode cX4_cash 42 = .ok (.ireturn, 1) := by decide +kernel
theorem dX4_owe_0 : decode cX4_owe 0 = .ok (.aload_n 0, 1) := by decide +kernel
theorem dX4_owe_1 : decode cX4_owe 1 = .ok (.iload_n 1, 1) := by decide +kernel
theorem dX4_owe_2 : decode cX4_owe 2 = .ok (.invokevirtual 57, 3) := by decide +kernel
theorem dX4_owe_5 : decode cX4_owe 5 = .ok (.ifCond .eq 15, 3) := by decide +kernel
theorem dX4_owe_8 : decode cX4_owe 8 = .ok (.iload_n 2, 1) := by decide +kernel
theorem dX4_owe_9 : decode cX4_owe 9 = .ok (.iconst 0, 1) := by decide +kernel
theorem dX4_owe_10 : decode cX4_owe 10 = .ok (.aload_n 0, 1) := by decide +kernel
theorem dX4_owe_11 : decode cX4_owe 11 = .ok (.getfield 7, 3) := by decide +kernel
theorem dX4_owe_14 : decode cX4_owe 14 = .ok (.invokestatic 46, 3) := by decide +kernel
theorem dX4_owe_17 : decode cX4_owe 17 = .ok (.ifCond .ne 6, 3) := by decide +kernel
theorem dX4_owe_20 : decode cX4_owe 20 = .ok (.bipush (-101), 2) := by decide +kernel
theorem dX4_owe_22 : decode cX4_owe 22 = .ok (.ireturn, 1) := by decide +kernel
theorem dX4_owe_23 : decode cX4_owe 23 = .ok (.iload_n 3, 1) := by decide +kernel
theorem dX4_owe_24 : decode cX4_owe 24 = .ok (.iconst 0, 1) := by decide +kernel
theorem dX4_owe_25 : decode cX4_owe 25 = .ok (.bipush 50, 2) := by decide +kernel
theorem dX4_owe_27 : decode cX4_owe 27 = .ok (.invokestatic 46, 3) := by decide +kernel
theorem dX4_owe_30 : decode cX4_owe 30 = .ok (.ifCond .eq 8, 3) := by decide +kernel
theorem dX4_owe_33 : decode cX4_owe 33 = .ok (.iload_n 1, 1) := by decide +kernel
theorem dX4_owe_34 : decode cX4_owe 34 = .ok (.iload_n 2, 1) := by decide +kernel
theorem dX4_owe_35 : decode cX4_owe 35 = .ok (.if_icmp .ne 6, 3) := by decide +kernel
theorem dX4_owe_38 : decode cX4_owe 38 = .ok (.bipush (-102), 2) := by decide +kernel
theorem dX4_owe_40 : decode cX4_owe 40 = .ok (.ireturn, 1) := by decide +kernel
theorem dX4_owe_41 : decode cX4_owe 41 = .ok (.aload_n 0, 1) := by decide +kernel
theorem dX4_owe_42 : decode cX4_owe 42 = .ok (.getfield 17, 3) := by decide +kernel
theorem dX4_owe_45 : decode cX4_owe 45 = .ok (.iconst 5, 1) := by decide +kernel
theorem dX4_owe_46 : decode cX4_owe 46 = .ok (.iload_n 1, 1) := by decide +kernel
theorem dX4_owe_47 : decode cX4_owe 47 = .ok (.imul, 1) := by decide +kernel
theorem dX4_owe_48 : decode cX4_owe 48 = .ok (.iload_n 2, 1) := by decide +kernel
theorem dX4_owe_49 : decode cX4_owe 49 = .ok (.iadd, 1) := by decide +kernel
theorem dX4_owe_50 : decode cX4_owe 50 = .ok (.iaload, 1) := by decide +kernel
theorem dX4_owe_51 : decode cX4_owe 51 = .ok (.istore 4, 2) := by decide +kernel
theorem dX4_owe_53 : decode cX4_owe 53 = .ok (.aload_n 0, 1) := by decide +kernel
theorem dX4_owe_54 : decode cX4_owe 54 = .ok (.getfield 17, 3) := by decide +kernel
theorem dX4_owe_57 : decode cX4_owe 57 = .ok (.iconst 5, 1) := by decide +kernel
theorem dX4_owe_58 : decode cX4_owe 58 = .ok (.iload_n 1, 1) := by decide +kernel
theorem dX4_owe_59 : decode cX4_owe 59 = .ok (.imul, 1) := by decide +kernel
theorem dX4_owe_60 : decode cX4_owe 60 = .ok (.iload_n 2, 1) := by decide +kernel
theorem dX4_owe_61 : decode cX4_owe 61 = .ok (.iadd, 1) := by decide +kernel
theorem dX4_owe_62 : decode cX4_owe 62 = .ok (.iload_n 3, 1) := by decide +kernel
theorem dX4_owe_63 : decode cX4_owe 63 = .ok (.iastore, 1) := by decide +kernel
theorem dX4_owe_64 : decode cX4_owe 64 = .ok (.iload 4, 2) := by decide +kernel
theorem dX4_owe_66 : decode cX4_owe 66 = .ok (.ireturn, 1) := by decide +kernel
theorem dX4_toll_0 : decode cX4_toll 0 = .ok (.iload_n 1, 1) := by decide +kernel
theorem dX4_toll_1 : decode cX4_toll 1 = .ok (.iconst 0, 1) := by decide +kernel
theorem dX4_toll_2 : decode cX4_toll 2 = .ok (.iconst 5, 1) := by decide +kernel
theorem dX4_toll_3 : decode cX4_toll 3 = .ok (.invokestatic 46, 3) := by decide +kernel
theorem dX4_toll_6 : decode cX4_toll 6 = .ok (.ifCond .ne 6, 3) := by decide +kernel
theorem dX4_toll_9 : decode cX4_toll 9 = .ok (.bipush (-102), 2) := by decide +kernel
theorem dX4_toll_11 : decode cX4_toll 11 = .ok (.ireturn, 1) := by decide +kernel
theorem dX4_toll_12 : decode cX4_toll 12 = .ok (.aload_n 0, 1) := by decide +kernel
theorem dX4_toll_13 : decode cX4_toll 13 = .ok (.getfield 50, 3) := by decide +kernel
theorem dX4_toll_16 : decode cX4_toll 16 = .ok (.istore_n 2, 1) := by decide +kernel
theorem dX4_toll_17 : decode cX4_toll 17 = .ok (.aload_n 0, 1) := by decide +kernel
theorem dX4_toll_18 : decode cX4_toll 18 = .ok (.iload_n 1, 1) := by decide +kernel
theorem dX4_toll_19 : decode cX4_toll 19 = .ok (.putfield 50, 3) := by decide +kernel
theorem dX4_toll_22 : decode cX4_toll 22 = .ok (.iload_n 2, 1) := by decide +kernel
theorem dX4_toll_23 : decode cX4_toll 23 = .ok (.ireturn, 1) := by decide +kernel
theorem dX4_cashOf_0 : decode cX4_cashOf 0 = .ok (.aload_n 0, 1) := by decide +kernel
theorem dX4_cashOf_1 : decode cX4_cashOf 1 = .ok (.iload_n 1, 1) := by decide +kernel
theorem dX4_cashOf_2 : decode cX4_cashOf 2 = .ok (.invokevirtual 57, 3) := by decide +kernel
theorem dX4_cashOf_5 : decode cX4_cashOf 5 = .ok (.ifCond .eq 13, 3) := by decide +kernel
theorem dX4_cashOf_8 : decode cX4_cashOf 8 = .ok (.aload_n 0, 1) := by decide +kernel
theorem dX4_cashOf_9 : decode cX4_cashOf 9 = .ok (.getfield 13, 3) := by decide +kernel
theorem dX4_cashOf_12 : decode cX4_cashOf 12 = .ok (.iload_n 1, 1) := by decide +kernel
theorem dX4_cashOf_13 : decode cX4_cashOf 13 = .ok (.laload, 1) := by decide +kernel
theorem dX4_cashOf_14 : decode cX4_cashOf 14 = .ok (.l2i, 1) := by decide +kernel
theorem dX4_cashOf_15 : decode cX4_cashOf 15 = .ok (.goto 5, 3) := by decide +kernel
theorem dX4_cashOf_18 : decode cX4_cashOf 18 = .ok (.bipush (-101), 2) := by decide +kernel
theorem dX4_cashOf_20 : decode cX4_cashOf 20 = .ok (.ireturn, 1) := by decide +kernel
theorem dX4_debt_0 : decode cX4_debt 0 = .ok (.aload_n 0, 1) := by decide +kernel
theorem dX4_debt_1 : decode cX4_debt 1 = .ok (.iload_n 1, 1) := by decide +kernel
theorem dX4_debt_2 : decode cX4_debt 2 = .ok (.invokevirtual 57, 3) := by decide +kernel
theorem dX4_debt_5 : decode cX4_debt 5 = .ok (.ifCond .eq 28, 3) := by decide +kernel
theorem dX4_debt_8 : decode cX4_debt 8 = .ok (.iload_n 2, 1) := by decide +kernel
theorem dX4_debt_9 : decode cX4_debt 9 = .ok (.iconst 0, 1) := by decide +kernel
theorem dX4_debt_10 : decode cX4_debt 10 = .ok (.aload_n 0, 1) := by decide +kernel
theorem dX4_debt_11 : decode cX4_debt 11 = .ok (.getfield 7, 3) := by decide +kernel
theorem dX4_debt_14 : decode cX4_debt 14 = .ok (.invokestatic 46, 3) := by decide +kernel
theorem dX4_debt_17 : decode cX4_debt 17 = .ok (.ifCond .eq 16, 3) := by decide +kernel
theorem dX4_debt_20 : decode cX4_debt 20 = .ok (.aload_n 0, 1) := by decide +kernel
theorem dX4_debt_21 : decode cX4_debt 21 = .ok (.getfield 17, 3) := by decide +kernel
theorem dX4_debt_24 : decode cX4_debt 24 = .ok (.iconst 5, 1) := by decide +kernel
theorem dX4_debt_25 : decode cX4_debt 25 = .ok (.iload_n 1, 1) := by decide +kernel
theorem dX4_debt_26 : decode cX4_debt 26 = .ok (.imul, 1) := by decide +kernel
theorem dX4_debt_27 : decode cX4_debt 27 = .ok (.iload_n 2, 1) := by decide +kernel
theorem dX4_debt_28 : decode cX4_debt 28 = .ok (.iadd, 1) := by decide +kernel
theorem dX4_debt_29 : decode cX4_debt 29 = .ok (.iaload, 1) := by decide +kernel
theorem dX4_debt_30 : decode cX4_debt 30 = .ok (.goto 5, 3) := by decide +kernel
theorem dX4_debt_33 : decode cX4_debt 33 = .ok (.bipush (-101), 2) := by decide +kernel
theorem dX4_debt_35 : decode cX4_debt 35 = .ok (.ireturn, 1) := by decide +kernel
theorem dX4_owesOf_0 : decode cX4_owesOf 0 = .ok (.iconst 0, 1) := by decide +kernel
theorem dX4_owesOf_1 : decode cX4_owesOf 1 = .ok (.istore_n 2, 1) := by decide +kernel
theorem dX4_owesOf_2 : decode cX4_owesOf 2 = .ok (.iconst 0, 1) := by decide +kernel
theorem dX4_owesOf_3 : decode cX4_owesOf 3 = .ok (.istore_n 3, 1) := by decide +kernel
theorem dX4_owesOf_4 : decode cX4_owesOf 4 = .ok (.iload_n 3, 1) := by decide +kernel
theorem dX4_owesOf_5 : decode cX4_owesOf 5 = .ok (.aload_n 0, 1) := by decide +kernel
theorem dX4_owesOf_6 : decode cX4_owesOf 6 = .ok (.getfield 7, 3) := by decide +kernel
theorem dX4_owesOf_9 : decode cX4_owesOf 9 = .ok (.if_icmp .gt 22, 3) := by decide +kernel
theorem dX4_owesOf_12 : decode cX4_owesOf 12 = .ok (.iload_n 2, 1) := by decide +kernel
theorem dX4_owesOf_13 : decode cX4_owesOf 13 = .ok (.aload_n 0, 1) := by decide +kernel
theorem dX4_owesOf_14 : decode cX4_owesOf 14 = .ok (.getfield 17, 3) := by decide +kernel
theorem dX4_owesOf_17 : decode cX4_owesOf 17 = .ok (.iconst 5, 1) := by decide +kernel
theorem dX4_owesOf_18 : decode cX4_owesOf 18 = .ok (.iload_n 1, 1) := by decide +kernel
theorem dX4_owesOf_19 : decode cX4_owesOf 19 = .ok (.imul, 1) := by decide +kernel
theorem dX4_owesOf_20 : decode cX4_owesOf 20 = .ok (.iload_n 3, 1) := by decide +kernel
theorem dX4_owesOf_21 : decode cX4_owesOf 21 = .ok (.iadd, 1) := by decide +kernel
theorem dX4_owesOf_22 : decode cX4_owesOf 22 = .ok (.iaload, 1) := by decide +kernel
theorem dX4_owesOf_23 : decode cX4_owesOf 23 = .ok (.iadd, 1) := by decide +kernel
theorem dX4_owesOf_24 : decode cX4_owesOf 24 = .ok (.istore_n 2, 1) := by decide +kernel
theorem dX4_owesOf_25 : decode cX4_owesOf 25 = .ok (.iinc 3 1, 3) := by decide +kernel
theorem dX4_owesOf_28 : decode cX4_owesOf 28 = .ok (.goto (-24), 3) := by decide +kernel
theorem dX4_owesOf_31 : decode cX4_owesOf 31 = .ok (.iload_n 2, 1) := by decide +kernel
theorem dX4_owesOf_32 : decode cX4_owesOf 32 = .ok (.ireturn, 1) := by decide +kernel
theorem dX4_owes_0 : decode cX4_owes 0 = .ok (.aload_n 0, 1) := by decide +kernel
theorem dX4_owes_1 : decode cX4_owes 1 = .ok (.iload_n 1, 1) := by decide +kernel
theorem dX4_owes_2 : decode cX4_owes 2 = .ok (.invokevirtual 57, 3) := by decide +kernel
theorem dX4_owes_5 : decode cX4_owes 5 = .ok (.ifCond .eq 11, 3) := by decide +kernel
theorem dX4_owes_8 : decode cX4_owes 8 = .ok (.aload_n 0, 1) := by decide +kernel
theorem dX4_owes_9 : decode cX4_owes 9 = .ok (.iload_n 1, 1) := by decide +kernel
theorem dX4_owes_10 : decode cX4_owes 10 = .ok (.invokevirtual 61, 3) := by decide +kernel
theorem dX4_owes_13 : decode cX4_owes 13 = .ok (.goto 5, 3) := by decide +kernel
theorem dX4_owes_16 : decode cX4_owes 16 = .ok (.bipush (-101), 2) := by decide +kernel
theorem dX4_owes_18 : decode cX4_owes 18 = .ok (.ireturn, 1) := by decide +kernel
theorem dX4_pair_0 : decode cX4_pair 0 = .ok (.aload_n 0, 1) := by decide +kernel
theorem dX4_pair_1 : decode cX4_pair 1 = .ok (.getfield 33, 3) := by decide +kernel
theorem dX4_pair_4 : decode cX4_pair 4 = .ok (.iconst 4, 1) := by decide +kernel
theorem dX4_pair_5 : decode cX4_pair 5 = .ok (.iload_n 1, 1) := by decide +kernel
theorem dX4_pair_6 : decode cX4_pair 6 = .ok (.imul, 1) := by decide +kernel
theorem dX4_pair_7 : decode cX4_pair 7 = .ok (.iload_n 2, 1) := by decide +kernel
theorem dX4_pair_8 : decode cX4_pair 8 = .ok (.iadd, 1) := by decide +kernel
theorem dX4_pair_9 : decode cX4_pair 9 = .ok (.laload, 1) := by decide +kernel
theorem dX4_pair_10 : decode cX4_pair 10 = .ok (.aload_n 0, 1) := by decide +kernel
theorem dX4_pair_11 : decode cX4_pair 11 = .ok (.getfield 33, 3) := by decide +kernel
theorem dX4_pair_14 : decode cX4_pair 14 = .ok (.iconst 4, 1) := by decide +kernel
theorem dX4_pair_15 : decode cX4_pair 15 = .ok (.iload_n 1, 1) := by decide +kernel
theorem dX4_pair_16 : decode cX4_pair 16 = .ok (.imul, 1) := by decide +kernel
theorem dX4_pair_17 : decode cX4_pair 17 = .ok (.iconst 4, 1) := by decide +kernel
theorem dX4_pair_18 : decode cX4_pair 18 = .ok (.iadd, 1) := by decide +kernel
theorem dX4_pair_19 : decode cX4_pair 19 = .ok (.iload_n 3, 1) := by decide +kernel
theorem dX4_pair_20 : decode cX4_pair 20 = .ok (.iadd, 1) := by decide +kernel
theorem dX4_pair_21 : decode cX4_pair 21 = .ok (.laload, 1) := by decide +kernel
theorem dX4_pair_22 : decode cX4_pair 22 = .ok (.lmul, 1) := by decide +kernel
theorem dX4_pair_23 : decode cX4_pair 23 = .ok (.aload_n 0, 1) := by decide +kernel
theorem dX4_pair_24 : decode cX4_pair 24 = .ok (.getfield 33, 3) := by decide +kernel
theorem dX4_pair_27 : decode cX4_pair 27 = .ok (.iconst 4, 1) := by decide +kernel
theorem dX4_pair_28 : decode cX4_pair 28 = .ok (.iload_n 1, 1) := by decide +kernel
theorem dX4_pair_29 : decode cX4_pair 29 = .ok (.imul, 1) := by decide +kernel
theorem dX4_pair_30 : decode cX4_pair 30 = .ok (.iload_n 3, 1) := by decide +kernel
theorem dX4_pair_31 : decode cX4_pair 31 = .ok (.iadd, 1) := by decide +kernel
theorem dX4_pair_32 : decode cX4_pair 32 = .ok (.laload, 1) := by decide +kernel
theorem dX4_pair_33 : decode cX4_pair 33 = .ok (.aload_n 0, 1) := by decide +kernel
theorem dX4_pair_34 : decode cX4_pair 34 = .ok (.getfield 33, 3) := by decide +kernel
theorem dX4_pair_37 : decode cX4_pair 37 = .ok (.iconst 4, 1) := by decide +kernel
theorem dX4_pair_38 : decode cX4_pair 38 = .ok (.iload_n 1, 1) := by decide +kernel
theorem dX4_pair_39 : decode cX4_pair 39 = .ok (.imul, 1) := by decide +kernel
theorem dX4_pair_40 : decode cX4_pair 40 = .ok (.iconst 4, 1) := by decide +kernel
theorem dX4_pair_41 : decode cX4_pair 41 = .ok (.iadd, 1) := by decide +kernel
theorem dX4_pair_42 : decode cX4_pair 42 = .ok (.iload_n 2, 1) := by decide +kernel
theorem dX4_pair_43 : decode cX4_pair 43 = .ok (.iadd, 1) := by decide +kernel
theorem dX4_pair_44 : decode cX4_pair 44 = .ok (.laload, 1) := by decide +kernel
theorem dX4_pair_45 : decode cX4_pair 45 = .ok (.lmul, 1) := by decide +kernel
theorem dX4_pair_46 : decode cX4_pair 46 = .ok (.lsub, 1) := by decide +kernel
theorem dX4_pair_47 : decode cX4_pair 47 = .ok (.lreturn, 1) := by decide +kernel
theorem dX4_worth_0 : decode cX4_worth 0 = .ok (.iconst 0, 1) := by decide +kernel
theorem dX4_worth_1 : decode cX4_worth 1 = .ok (.istore_n 2, 1) := by decide +kernel
theorem dX4_worth_2 : decode cX4_worth 2 = .ok (.iload_n 2, 1) := by decide +kernel
theorem dX4_worth_3 : decode cX4_worth 3 = .ok (.bipush 16, 2) := by decide +kernel
theorem dX4_worth_5 : decode cX4_worth 5 = .ok (.if_icmp .ge 39, 3) := by decide +kernel
theorem dX4_worth_8 : decode cX4_worth 8 = .ok (.aload_n 0, 1) := by decide +kernel
theorem dX4_worth_9 : decode cX4_worth 9 = .ok (.getfield 33, 3) := by decide +kernel
theorem dX4_worth_12 : decode cX4_worth 12 = .ok (.iload_n 2, 1) := by decide +kernel
theorem dX4_worth_13 : decode cX4_worth 13 = .ok (.iload_n 2, 1) := by decide +kernel
theorem dX4_worth_14 : decode cX4_worth 14 = .ok (.iconst 4, 1) := by decide +kernel
theorem dX4_worth_15 : decode cX4_worth 15 = .ok (.irem, 1) := by decide +kernel
theorem dX4_worth_16 : decode cX4_worth 16 = .ok (.iload_n 1, 1) := by decide +kernel
theorem dX4_worth_17 : decode cX4_worth 17 = .ok (.if_icmp .ne 14, 3) := by decide +kernel
theorem dX4_worth_20 : decode cX4_worth 20 = .ok (.aload_n 0, 1) := by decide +kernel
theorem dX4_worth_21 : decode cX4_worth 21 = .ok (.getfield 30, 3) := by decide +kernel
theorem dX4_worth_24 : decode cX4_worth 24 = .ok (.iload_n 2, 1) := by decide +kernel
theorem dX4_worth_25 : decode cX4_worth 25 = .ok (.iconst 4, 1) := by decide +kernel
theorem dX4_worth_26 : decode cX4_worth 26 = .ok (.idiv, 1) := by decide +kernel
theorem dX4_worth_27 : decode cX4_worth 27 = .ok (.laload, 1) := by decide +kernel
theorem dX4_worth_28 : decode cX4_worth 28 = .ok (.goto 9, 3) := by decide +kernel
theorem dX4_worth_31 : decode cX4_worth 31 = .ok (.aload_n 0, 1) := by decide +kernel
theorem dX4_worth_32 : decode cX4_worth 32 = .ok (.getfield 27, 3) := by decide +kernel
theorem dX4_worth_35 : decode cX4_worth 35 = .ok (.iload_n 2, 1) := by decide +kernel
theorem dX4_worth_36 : decode cX4_worth 36 = .ok (.laload, 1) := by decide +kernel
theorem dX4_worth_37 : decode cX4_worth 37 = .ok (.lastore, 1) := by decide +kernel
theorem dX4_worth_38 : decode cX4_worth 38 = .ok (.iinc 2 1, 3) := by decide +kernel
theorem dX4_worth_41 : decode cX4_worth 41 = .ok (.goto (-39), 3) := by decide +kernel
theorem dX4_worth_44 : decode cX4_worth 44 = .ok (.aload_n 0, 1) := by decide +kernel
theorem dX4_worth_45 : decode cX4_worth 45 = .ok (.iconst 0, 1) := by decide +kernel
theorem dX4_worth_46 : decode cX4_worth 46 = .ok (.iconst 0, 1) := by decide +kernel
theorem dX4_worth_47 : decode cX4_worth 47 = .ok (.iconst 1, 1) := by decide +kernel
theorem dX4_worth_48 : decode cX4_worth 48 = .ok (.invokevirtual 65, 3) := by decide +kernel
theorem dX4_worth_51 : decode cX4_worth 51 = .ok (.aload_n 0, 1) := by decide +kernel
theorem dX4_worth_52 : decode cX4_worth 52 = .ok (.iconst 2, 1) := by decide +kernel
theorem dX4_worth_53 : decode cX4_worth 53 = .ok (.iconst 2, 1) := by decide +kernel
theorem dX4_worth_54 : decode cX4_worth 54 = .ok (.iconst 3, 1) := by decide +kernel
theorem dX4_worth_55 : decode cX4_worth 55 = .ok (.invokevirtual 65, 3) := by decide +kernel
theorem dX4_worth_58 : decode cX4_worth 58 = .ok (.lmul, 1) := by decide +kernel
theorem dX4_worth_59 : decode cX4_worth 59 = .ok (.aload_n 0, 1) := by decide +kernel
theorem dX4_worth_60 : decode cX4_worth 60 = .ok (.iconst 0, 1) := by decide +kernel
theorem dX4_worth_61 : decode cX4_worth 61 = .ok (.iconst 0, 1) := by decide +kernel
theorem dX4_worth_62 : decode cX4_worth 62 = .ok (.iconst 2, 1) := by decide +kernel
theorem dX4_worth_63 : decode cX4_worth 63 = .ok (.invokevirtual 65, 3) := by decide +kernel
theorem dX4_worth_66 : decode cX4_worth 66 = .ok (.aload_n 0, 1) := by decide +kernel
theorem dX4_worth_67 : decode cX4_worth 67 = .ok (.iconst 2, 1) := by decide +kernel
theorem dX4_worth_68 : decode cX4_worth 68 = .ok (.iconst 1, 1) := by decide +kernel
theorem dX4_worth_69 : decode cX4_worth 69 = .ok (.iconst 3, 1) := by decide +kernel
theorem dX4_worth_70 : decode cX4_worth 70 = .ok (.invokevirtual 65, 3) := by decide +kernel
theorem dX4_worth_73 : decode cX4_worth 73 = .ok (.lmul, 1) := by decide +kernel
theorem dX4_worth_74 : decode cX4_worth 74 = .ok (.lsub, 1) := by decide +kernel
theorem dX4_worth_75 : decode cX4_worth 75 = .ok (.aload_n 0, 1) := by decide +kernel
theorem dX4_worth_76 : decode cX4_worth 76 = .ok (.iconst 0, 1) := by decide +kernel
theorem dX4_worth_77 : decode cX4_worth 77 = .ok (.iconst 0, 1) := by decide +kernel
theorem dX4_worth_78 : decode cX4_worth 78 = .ok (.iconst 3, 1) := by decide +kernel
theorem dX4_worth_79 : decode cX4_worth 79 = .ok (.invokevirtual 65, 3) := by decide +kernel
theorem dX4_worth_82 : decode cX4_worth 82 = .ok (.aload_n 0, 1) := by decide +kernel
theorem dX4_worth_83 : decode cX4_worth 83 = .ok (.iconst 2, 1) := by decide +kernel
theorem dX4_worth_84 : decode cX4_worth 84 = .ok (.iconst 1, 1) := by decide +kernel
theorem dX4_worth_85 : decode cX4_worth 85 = .ok (.iconst 2, 1) := by decide +kernel
theorem dX4_worth_86 : decode cX4_worth 86 = .ok (.invokevirtual 65, 3) := by decide +kernel
theorem dX4_worth_89 : decode cX4_worth 89 = .ok (.lmul, 1) := by decide +kernel
theorem dX4_worth_90 : decode cX4_worth 90 = .ok (.ladd, 1) := by decide +kernel
theorem dX4_worth_91 : decode cX4_worth 91 = .ok (.lstore_n 2, 1) := by decide +kernel
theorem dX4_worth_92 : decode cX4_worth 92 = .ok (.lload_n 2, 1) := by decide +kernel
theorem dX4_worth_93 : decode cX4_worth 93 = .ok (.aload_n 0, 1) := by decide +kernel
theorem dX4_worth_94 : decode cX4_worth 94 = .ok (.iconst 0, 1) := by decide +kernel
theorem dX4_worth_95 : decode cX4_worth 95 = .ok (.iconst 1, 1) := by decide +kernel
theorem dX4_worth_96 : decode cX4_worth 96 = .ok (.iconst 2, 1) := by decide +kernel
theorem dX4_worth_97 : decode cX4_worth 97 = .ok (.invokevirtual 65, 3) := by decide +kernel
theorem dX4_worth_100 : decode cX4_worth 100 = .ok (.aload_n 0, 1) := by decide +kernel
theorem dX4_worth_101 : decode cX4_worth 101 = .ok (.iconst 2, 1) := by decide +kernel
theorem dX4_worth_102 : decode cX4_worth 102 = .ok (.iconst 0, 1) := by decide +kernel
theorem dX4_worth_103 : decode cX4_worth 103 = .ok (.iconst 3, 1) := by decide +kernel
theorem dX4_worth_104 : decode cX4_worth 104 = .ok (.invokevirtual 65, 3) := by decide +kernel
theorem dX4_worth_107 : decode cX4_worth 107 = .ok (.lmul, 1) := by decide +kernel
theorem dX4_worth_108 : decode cX4_worth 108 = .ok (.ladd, 1) := by decide +kernel
theorem dX4_worth_109 : decode cX4_worth 109 = .ok (.aload_n 0, 1) := by decide +kernel
theorem dX4_worth_110 : decode cX4_worth 110 = .ok (.iconst 0, 1) := by decide +kernel
theorem dX4_worth_111 : decode cX4_worth 111 = .ok (.iconst 1, 1) := by decide +kernel
theorem dX4_worth_112 : decode cX4_worth 112 = .ok (.iconst 3, 1) := by decide +kernel
theorem dX4_worth_113 : decode cX4_worth 113 = .ok (.invokevirtual 65, 3) := by decide +kernel
theorem dX4_worth_116 : decode cX4_worth 116 = .ok (.aload_n 0, 1) := by decide +kernel
theorem dX4_worth_117 : decode cX4_worth 117 = .ok (.iconst 2, 1) := by decide +kernel
theorem dX4_worth_118 : decode cX4_worth 118 = .ok (.iconst 0, 1) := by decide +kernel
theorem dX4_worth_119 : decode cX4_worth 119 = .ok (.iconst 2, 1) := by decide +kernel
theorem dX4_worth_120 : decode cX4_worth 120 = .ok (.invokevirtual 65, 3) := by decide +kernel
theorem dX4_worth_123 : decode cX4_worth 123 = .ok (.lmul, 1) := by decide +kernel
theorem dX4_worth_124 : decode cX4_worth 124 = .ok (.lsub, 1) := by decide +kernel
theorem dX4_worth_125 : decode cX4_worth 125 = .ok (.aload_n 0, 1) := by decide +kernel
theorem dX4_worth_126 : decode cX4_worth 126 = .ok (.iconst 0, 1) := by decide +kernel
theorem dX4_worth_127 : decode cX4_worth 127 = .ok (.iconst 2, 1) := by decide +kernel
theorem dX4_worth_128 : decode cX4_worth 128 = .ok (.iconst 3, 1) := by decide +kernel
theorem dX4_worth_129 : decode cX4_worth 129 = .ok (.invokevirtual 65, 3) := by decide +kernel
theorem dX4_worth_132 : decode cX4_worth 132 = .ok (.aload_n 0, 1) := by decide +kernel
theorem dX4_worth_133 : decode cX4_worth 133 = .ok (.iconst 2, 1) := by decide +kernel
theorem dX4_worth_134 : decode cX4_worth 134 = .ok (.iconst 0, 1) := by decide +kernel
theorem dX4_worth_135 : decode cX4_worth 135 = .ok (.iconst 1, 1) := by decide +kernel
theorem dX4_worth_136 : decode cX4_worth 136 = .ok (.invokevirtual 65, 3) := by decide +kernel
theorem dX4_worth_139 : decode cX4_worth 139 = .ok (.lmul, 1) := by decide +kernel
theorem dX4_worth_140 : decode cX4_worth 140 = .ok (.ladd, 1) := by decide +kernel
theorem dX4_worth_141 : decode cX4_worth 141 = .ok (.lreturn, 1) := by decide +kernel
theorem dX4_solve_0 : decode cX4_solve 0 = .ok (.iconst 0, 1) := by decide +kernel
theorem dX4_solve_1 : decode cX4_solve 1 = .ok (.istore_n 1, 1) := by decide +kernel
theorem dX4_solve_2 : decode cX4_solve 2 = .ok (.iload_n 1, 1) := by decide +kernel
theorem dX4_solve_3 : decode cX4_solve 3 = .ok (.iconst 4, 1) := by decide +kernel
theorem dX4_solve_4 : decode cX4_solve 4 = .ok (.if_icmp .ge 160, 3) := by decide +kernel
theorem dX4_solve_7 : decode cX4_solve 7 = .ok (.iload_n 1, 1) := by decide +kernel
theorem dX4_solve_8 : decode cX4_solve 8 = .ok (.aload_n 0, 1) := by decide +kernel
theorem dX4_solve_9 : decode cX4_solve 9 = .ok (.getfield 7, 3) := by decide +kernel
theorem dX4_solve_12 : decode cX4_solve 12 = .ok (.if_icmp .ge 16, 3) := by decide +kernel
theorem dX4_solve_15 : decode cX4_solve 15 = .ok (.aload_n 0, 1) := by decide +kernel
theorem dX4_solve_16 : decode cX4_solve 16 = .ok (.getfield 21, 3) := by decide +kernel
theorem dX4_solve_19 : decode cX4_solve 19 = .ok (.iload_n 1, 1) := by decide +kernel
theorem dX4_solve_20 : decode cX4_solve 20 = .ok (.iaload, 1) := by decide +kernel
theorem dX4_solve_21 : decode cX4_solve 21 = .ok (.ifCond .le 7, 3) := by decide +kernel
theorem dX4_solve_24 : decode cX4_solve 24 = .ok (.iconst 1, 1) := by decide +kernel
theorem dX4_solve_25 : decode cX4_solve 25 = .ok (.goto 4, 3) := by decide +kernel
theorem dX4_solve_28 : decode cX4_solve 28 = .ok (.iconst 0, 1) := by decide +kernel
theorem dX4_solve_29 : decode cX4_solve 29 = .ok (.istore_n 2, 1) := by decide +kernel
theorem dX4_solve_30 : decode cX4_solve 30 = .ok (.aload_n 0, 1) := by decide +kernel
theorem dX4_solve_31 : decode cX4_solve 31 = .ok (.getfield 30, 3) := by decide +kernel
theorem dX4_solve_34 : decode cX4_solve 34 = .ok (.iload_n 1, 1) := by decide +kernel
theorem dX4_solve_35 : decode cX4_solve 35 = .ok (.iload_n 2, 1) := by decide +kernel
theorem dX4_solve_36 : decode cX4_solve 36 = .ok (.ifCond .eq 21, 3) := by decide +kernel
theorem dX4_solve_39 : decode cX4_solve 39 = .ok (.bipush 10, 2) := by decide +kernel
theorem dX4_solve_41 : decode cX4_solve 41 = .ok (.aload_n 0, 1) := by decide +kernel
theorem dX4_solve_42 : decode cX4_solve 42 = .ok (.getfield 50, 3) := by decide +kernel
theorem dX4_solve_45 : decode cX4_solve 45 = .ok (.isub, 1) := by decide +kernel
theorem dX4_solve_46 : decode cX4_solve 46 = .ok (.i2l, 1) := by decide +kernel
theorem dX4_solve_47 : decode cX4_solve 47 = .ok (.aload_n 0, 1) := by decide +kernel
theorem dX4_solve_48 : decode cX4_solve 48 = .ok (.getfield 13, 3) := by decide +kernel
theorem dX4_solve_51 : decode cX4_solve 51 = .ok (.iload_n 1, 1) := by decide +kernel
theorem dX4_solve_52 : decode cX4_solve 52 = .ok (.laload, 1) := by decide +kernel
theorem dX4_solve_53 : decode cX4_solve 53 = .ok (.lmul, 1) := by decide +kernel
theorem dX4_solve_54 : decode cX4_solve 54 = .ok (.goto 4, 3) := by decide +kernel
theorem dX4_solve_57 : decode cX4_solve 57 = .ok (.lconst 1, 1) := by decide +kernel
theorem dX4_solve_58 : decode cX4_solve 58 = .ok (.lastore, 1) := by decide +kernel
theorem dX4_solve_59 : decode cX4_solve 59 = .ok (.iconst 0, 1) := by decide +kernel
theorem dX4_solve_60 : decode cX4_solve 60 = .ok (.istore_n 3, 1) := by decide +kernel
theorem dX4_solve_61 : decode cX4_solve 61 = .ok (.iload_n 3, 1) := by decide +kernel
theorem dX4_solve_62 : decode cX4_solve 62 = .ok (.iconst 4, 1) := by decide +kernel
theorem dX4_solve_63 : decode cX4_solve 63 = .ok (.if_icmp .ge 95, 3) := by decide +kernel
theorem dX4_solve_66 : decode cX4_solve 66 = .ok (.iload_n 2, 1) := by decide +kernel
theorem dX4_solve_67 : decode cX4_solve 67 = .ok (.ifCond .eq 25, 3) := by decide +kernel
theorem dX4_solve_70 : decode cX4_solve 70 = .ok (.iload_n 3, 1) := by decide +kernel
theorem dX4_solve_71 : decode cX4_solve 71 = .ok (.aload_n 0, 1) := by decide +kernel
theorem dX4_solve_72 : decode cX4_solve 72 = .ok (.getfield 7, 3) := by decide +kernel
theorem dX4_solve_75 : decode cX4_solve 75 = .ok (.if_icmp .ge 17, 3) := by decide +kernel
theorem dX4_solve_78 : decode cX4_solve 78 = .ok (.aload_n 0, 1) := by decide +kernel
theorem dX4_solve_79 : decode cX4_solve 79 = .ok (.getfield 17, 3) := by decide +kernel
theorem dX4_solve_82 : decode cX4_solve 82 = .ok (.iconst 5, 1) := by decide +kernel
theorem dX4_solve_83 : decode cX4_solve 83 = .ok (.iload_n 3, 1) := by decide +kernel
theorem dX4_solve_84 : decode cX4_solve 84 = .ok (.imul, 1) := by decide +kernel
theorem dX4_solve_85 : decode cX4_solve 85 = .ok (.iload_n 1, 1) := by decide +kernel
theorem dX4_solve_86 : decode cX4_solve 86 = .ok (.iadd, 1) := by decide +kernel
theorem dX4_solve_87 : decode cX4_solve 87 = .ok (.iaload, 1) := by decide +kernel
theorem dX4_solve_88 : decode cX4_solve 88 = .ok (.i2l, 1) := by decide +kernel
theorem dX4_solve_89 : decode cX4_solve 89 = .ok (.goto 4, 3) := by decide +kernel
theorem dX4_solve_92 : decode cX4_solve 92 = .ok (.lconst 0, 1) := by decide +kernel
theorem dX4_solve_93 : decode cX4_solve 93 = .ok (.lstore 4, 2) := by decide +kernel
theorem dX4_solve_95 : decode cX4_solve 95 = .ok (.aload_n 0, 1) := by decide +kernel
theorem dX4_solve_96 : decode cX4_solve 96 = .ok (.getfield 27, 3) := by decide +kernel
theorem dX4_solve_99 : decode cX4_solve 99 = .ok (.iconst 4, 1) := by decide +kernel
theorem dX4_solve_100 : decode cX4_solve 100 = .ok (.iload_n 1, 1) := by decide +kernel
theorem dX4_solve_101 : decode cX4_solve 101 = .ok (.imul, 1) := by decide +kernel
theorem dX4_solve_102 : decode cX4_solve 102 = .ok (.iload_n 3, 1) := by decide +kernel
theorem dX4_solve_103 : decode cX4_solve 103 = .ok (.iadd, 1) := by decide +kernel
theorem dX4_solve_104 : decode cX4_solve 104 = .ok (.iload_n 3, 1) := by decide +kernel
theorem dX4_solve_105 : decode cX4_solve 105 = .ok (.iload_n 1, 1) := by decide +kernel
theorem dX4_solve_106 : decode cX4_solve 106 = .ok (.if_icmp .ne 24, 3) := by decide +kernel
theorem dX4_solve_109 : decode cX4_solve 109 = .ok (.iload_n 2, 1) := by decide +kernel
theorem dX4_solve_110 : decode cX4_solve 110 = .ok (.ifCond .eq 16, 3) := by decide +kernel
theorem dX4_solve_113 : decode cX4_solve 113 = .ok (.ldc2_w 69, 3) := by decide +kernel
theorem dX4_solve_116 : decode cX4_solve 116 = .ok (.aload_n 0, 1) := by decide +kernel
theorem dX4_solve_117 : decode cX4_solve 117 = .ok (.iload_n 1, 1) := by decide +kernel
theorem dX4_solve_118 : decode cX4_solve 118 = .ok (.invokevirtual 61, 3) := by decide +kernel
theorem dX4_solve_121 : decode cX4_solve 121 = .ok (.i2l, 1) := by decide +kernel
theorem dX4_solve_122 : decode cX4_solve 122 = .ok (.lmul, 1) := by decide +kernel
theorem dX4_solve_123 : decode cX4_solve 123 = .ok (.goto 8, 3) := by decide +kernel
theorem dX4_solve_126 : decode cX4_solve 126 = .ok (.lconst 1, 1) := by decide +kernel
theorem dX4_solve_127 : decode cX4_solve 127 = .ok (.goto 4, 3) := by decide +kernel
theorem dX4_solve_130 : decode cX4_solve 130 = .ok (.lconst 0, 1) := by decide +kernel
theorem dX4_solve_131 : decode cX4_solve 131 = .ok (.iload_n 2, 1) := by decide +kernel
theorem dX4_solve_132 : decode cX4_solve 132 = .ok (.ifCond .eq 17, 3) := by decide +kernel
theorem dX4_solve_135 : decode cX4_solve 135 = .ok (.bipush 10, 2) := by decide +kernel
theorem dX4_solve_137 : decode cX4_solve 137 = .ok (.aload_n 0, 1) := by decide +kernel
theorem dX4_solve_138 : decode cX4_solve 138 = .ok (.getfield 50, 3) := by decide +kernel
theorem dX4_solve_141 : decode cX4_solve 141 = .ok (.isub, 1) := by decide +kernel
theorem dX4_solve_142 : decode cX4_solve 142 = .ok (.i2l, 1) := by decide +kernel
theorem dX4_solve_143 : decode cX4_solve 143 = .ok (.lload 4, 2) := by decide +kernel
theorem dX4_solve_145 : decode cX4_solve 145 = .ok (.lmul, 1) := by decide +kernel
theorem dX4_solve_146 : decode cX4_solve 146 = .ok (.goto 4, 3) := by decide +kernel
theorem dX4_solve_149 : decode cX4_solve 149 = .ok (.lconst 0, 1) := by decide +kernel
theorem dX4_solve_150 : decode cX4_solve 150 = .ok (.lsub, 1) := by decide +kernel
theorem dX4_solve_151 : decode cX4_solve 151 = .ok (.lastore, 1) := by decide +kernel
theorem dX4_solve_152 : decode cX4_solve 152 = .ok (.iinc 3 1, 3) := by decide +kernel
theorem dX4_solve_155 : decode cX4_solve 155 = .ok (.goto (-94), 3) := by decide +kernel
theorem dX4_solve_158 : decode cX4_solve 158 = .ok (.iinc 1 1, 3) := by decide +kernel
theorem dX4_solve_161 : decode cX4_solve 161 = .ok (.goto (-159), 3) := by decide +kernel
theorem dX4_solve_164 : decode cX4_solve 164 = .ok (.aload_n 0, 1) := by decide +kernel
theorem dX4_solve_165 : decode cX4_solve 165 = .ok (.aload_n 0, 1) := by decide +kernel
theorem dX4_solve_166 : decode cX4_solve 166 = .ok (.iconst (-1), 1) := by decide +kernel
theorem dX4_solve_167 : decode cX4_solve 167 = .ok (.invokevirtual 71, 3) := by decide +kernel
theorem dX4_solve_170 : decode cX4_solve 170 = .ok (.putfield 75, 3) := by decide +kernel
theorem dX4_solve_173 : decode cX4_solve 173 = .ok (.iconst 0, 1) := by decide +kernel
theorem dX4_solve_174 : decode cX4_solve 174 = .ok (.istore_n 1, 1) := by decide +kernel
theorem dX4_solve_175 : decode cX4_solve 175 = .ok (.iload_n 1, 1) := by decide +kernel
theorem dX4_solve_176 : decode cX4_solve 176 = .ok (.iconst 4, 1) := by decide +kernel
theorem dX4_solve_177 : decode cX4_solve 177 = .ok (.if_icmp .ge 20, 3) := by decide +kernel
theorem dX4_solve_180 : decode cX4_solve 180 = .ok (.aload_n 0, 1) := by decide +kernel
theorem dX4_solve_181 : decode cX4_solve 181 = .ok (.getfield 24, 3) := by decide +kernel
theorem dX4_solve_184 : decode cX4_solve 184 = .ok (.iload_n 1, 1) := by decide +kernel
theorem dX4_solve_185 : decode cX4_solve 185 = .ok (.aload_n 0, 1) := by decide +kernel
theorem dX4_solve_186 : decode cX4_solve 186 = .ok (.iload_n 1, 1) := by decide +kernel
theorem dX4_solve_187 : decode cX4_solve 187 = .ok (.invokevirtual 71, 3) := by decide +kernel
theorem dX4_solve_190 : decode cX4_solve 190 = .ok (.lastore, 1) := by decide +kernel
theorem dX4_solve_191 : decode cX4_solve 191 = .ok (.iinc 1 1, 3) := by decide +kernel
theorem dX4_solve_194 : decode cX4_solve 194 = .ok (.goto (-19), 3) := by decide +kernel
theorem dX4_solve_197 : decode cX4_solve 197 = .ok (.return_, 1) := by decide +kernel
theorem dX4_grossOf_0 : decode cX4_grossOf 0 = .ok (.aload_n 0, 1) := by decide +kernel
theorem dX4_grossOf_1 : decode cX4_grossOf 1 = .ok (.getfield 13, 3) := by decide +kernel
theorem dX4_grossOf_4 : decode cX4_grossOf 4 = .ok (.iload_n 1, 1) := by decide +kernel
theorem dX4_grossOf_5 : decode cX4_grossOf 5 = .ok (.laload, 1) := by decide +kernel
theorem dX4_grossOf_6 : decode cX4_grossOf 6 = .ok (.aload_n 0, 1) := by decide +kernel
theorem dX4_grossOf_7 : decode cX4_grossOf 7 = .ok (.getfield 75, 3) := by decide +kernel
theorem dX4_grossOf_10 : decode cX4_grossOf 10 = .ok (.lmul, 1) := by decide +kernel
theorem dX4_grossOf_11 : decode cX4_grossOf 11 = .ok (.lstore_n 2, 1) := by decide +kernel
theorem dX4_grossOf_12 : decode cX4_grossOf 12 = .ok (.iconst 0, 1) := by decide +kernel
theorem dX4_grossOf_13 : decode cX4_grossOf 13 = .ok (.istore 4, 2) := by decide +kernel
theorem dX4_grossOf_15 : decode cX4_grossOf 15 = .ok (.iload 4, 2) := by decide +kernel
theorem dX4_grossOf_17 : decode cX4_grossOf 17 = .ok (.aload_n 0, 1) := by decide +kernel
theorem dX4_grossOf_18 : decode cX4_grossOf 18 = .ok (.getfield 7, 3) := by decide +kernel
theorem dX4_grossOf_21 : decode cX4_grossOf 21 = .ok (.if_icmp .ge 32, 3) := by decide +kernel
theorem dX4_grossOf_24 : decode cX4_grossOf 24 = .ok (.lload_n 2, 1) := by decide +kernel
theorem dX4_grossOf_25 : decode cX4_grossOf 25 = .ok (.aload_n 0, 1) := by decide +kernel
theorem dX4_grossOf_26 : decode cX4_grossOf 26 = .ok (.getfield 24, 3) := by decide +kernel
theorem dX4_grossOf_29 : decode cX4_grossOf 29 = .ok (.iload 4, 2) := by decide +kernel
theorem dX4_grossOf_31 : decode cX4_grossOf 31 = .ok (.laload, 1) := by decide +kernel
theorem dX4_grossOf_32 : decode cX4_grossOf 32 = .ok (.aload_n 0, 1) := by decide +kernel
theorem dX4_grossOf_33 : decode cX4_grossOf 33 = .ok (.getfield 17, 3) := by decide +kernel
theorem dX4_grossOf_36 : decode cX4_grossOf 36 = .ok (.iconst 5, 1) := by decide +kernel
theorem dX4_grossOf_37 : decode cX4_grossOf 37 = .ok (.iload 4, 2) := by decide +kernel
theorem dX4_grossOf_39 : decode cX4_grossOf 39 = .ok (.imul, 1) := by decide +kernel
theorem dX4_grossOf_40 : decode cX4_grossOf 40 = .ok (.iload_n 1, 1) := by decide +kernel
theorem dX4_grossOf_41 : decode cX4_grossOf 41 = .ok (.iadd, 1) := by decide +kernel
theorem dX4_grossOf_42 : decode cX4_grossOf 42 = .ok (.iaload, 1) := by decide +kernel
theorem dX4_grossOf_43 : decode cX4_grossOf 43 = .ok (.i2l, 1) := by decide +kernel
theorem dX4_grossOf_44 : decode cX4_grossOf 44 = .ok (.lmul, 1) := by decide +kernel
theorem dX4_grossOf_45 : decode cX4_grossOf 45 = .ok (.ladd, 1) := by decide +kernel
theorem dX4_grossOf_46 : decode cX4_grossOf 46 = .ok (.lstore_n 2, 1) := by decide +kernel
theorem dX4_grossOf_47 : decode cX4_grossOf 47 = .ok (.iinc 4 1, 3) := by decide +kernel
theorem dX4_grossOf_50 : decode cX4_grossOf 50 = .ok (.goto (-35), 3) := by decide +kernel
theorem dX4_grossOf_53 : decode cX4_grossOf 53 = .ok (.lload_n 2, 1) := by decide +kernel
theorem dX4_grossOf_54 : decode cX4_grossOf 54 = .ok (.lreturn, 1) := by decide +kernel
theorem dX4_clear_0 : decode cX4_clear 0 = .ok (.aload_n 0, 1) := by decide +kernel
theorem dX4_clear_1 : decode cX4_clear 1 = .ok (.iconst 0, 1) := by decide +kernel
theorem dX4_clear_2 : decode cX4_clear 2 = .ok (.putfield 78, 3) := by decide +kernel
theorem dX4_clear_5 : decode cX4_clear 5 = .ok (.iconst 0, 1) := by decide +kernel
theorem dX4_clear_6 : decode cX4_clear 6 = .ok (.istore_n 1, 1) := by decide +kernel
theorem dX4_clear_7 : decode cX4_clear 7 = .ok (.iload_n 1, 1) := by decide +kernel
theorem dX4_clear_8 : decode cX4_clear 8 = .ok (.iconst 4, 1) := by decide +kernel
theorem dX4_clear_9 : decode cX4_clear 9 = .ok (.if_icmp .ge 16, 3) := by decide +kernel
theorem dX4_clear_12 : decode cX4_clear 12 = .ok (.aload_n 0, 1) := by decide +kernel
theorem dX4_clear_13 : decode cX4_clear 13 = .ok (.getfield 21, 3) := by decide +kernel
theorem dX4_clear_16 : decode cX4_clear 16 = .ok (.iload_n 1, 1) := by decide +kernel
theorem dX4_clear_17 : decode cX4_clear 17 = .ok (.iconst 0, 1) := by decide +kernel
theorem dX4_clear_18 : decode cX4_clear 18 = .ok (.iastore, 1) := by decide +kernel
theorem dX4_clear_19 : decode cX4_clear 19 = .ok (.iinc 1 1, 3) := by decide +kernel
theorem dX4_clear_22 : decode cX4_clear 22 = .ok (.goto (-15), 3) := by decide +kernel
theorem dX4_clear_25 : decode cX4_clear 25 = .ok (.aload_n 0, 1) := by decide +kernel
theorem dX4_clear_26 : decode cX4_clear 26 = .ok (.invokevirtual 81, 3) := by decide +kernel
theorem dX4_clear_29 : decode cX4_clear 29 = .ok (.iconst 1, 1) := by decide +kernel
theorem dX4_clear_30 : decode cX4_clear 30 = .ok (.istore_n 1, 1) := by decide +kernel
theorem dX4_clear_31 : decode cX4_clear 31 = .ok (.iload_n 1, 1) := by decide +kernel
theorem dX4_clear_32 : decode cX4_clear 32 = .ok (.ifCond .eq 145, 3) := by decide +kernel
theorem dX4_clear_35 : decode cX4_clear 35 = .ok (.iconst 0, 1) := by decide +kernel
theorem dX4_clear_36 : decode cX4_clear 36 = .ok (.istore_n 1, 1) := by decide +kernel
theorem dX4_clear_37 : decode cX4_clear 37 = .ok (.iconst 0, 1) := by decide +kernel
theorem dX4_clear_38 : decode cX4_clear 38 = .ok (.istore_n 2, 1) := by decide +kernel
theorem dX4_clear_39 : decode cX4_clear 39 = .ok (.iload_n 2, 1) := by decide +kernel
theorem dX4_clear_40 : decode cX4_clear 40 = .ok (.aload_n 0, 1) := by decide +kernel
theorem dX4_clear_41 : decode cX4_clear 41 = .ok (.getfield 7, 3) := by decide +kernel
theorem dX4_clear_44 : decode cX4_clear 44 = .ok (.if_icmp .ge 68, 3) := by decide +kernel
theorem dX4_clear_47 : decode cX4_clear 47 = .ok (.aload_n 0, 1) := by decide +kernel
theorem dX4_clear_48 : decode cX4_clear 48 = .ok (.getfield 36, 3) := by decide +kernel
theorem dX4_clear_51 : decode cX4_clear 51 = .ok (.iload_n 2, 1) := by decide +kernel
theorem dX4_clear_52 : decode cX4_clear 52 = .ok (.aload_n 0, 1) := by decide +kernel
theorem dX4_clear_53 : decode cX4_clear 53 = .ok (.getfield 21, 3) := by decide +kernel
theorem dX4_clear_56 : decode cX4_clear 56 = .ok (.iload_n 2, 1) := by decide +kernel
theorem dX4_clear_57 : decode cX4_clear 57 = .ok (.iaload, 1) := by decide +kernel
theorem dX4_clear_58 : decode cX4_clear 58 = .ok (.ifCond .ne 27, 3) := by decide +kernel
theorem dX4_clear_61 : decode cX4_clear 61 = .ok (.aload_n 0, 1) := by decide +kernel
theorem dX4_clear_62 : decode cX4_clear 62 = .ok (.iload_n 2, 1) := by decide +kernel
theorem dX4_clear_63 : decode cX4_clear 63 = .ok (.invokevirtual 84, 3) := by decide +kernel
theorem dX4_clear_66 : decode cX4_clear 66 = .ok (.aload_n 0, 1) := by decide +kernel
theorem dX4_clear_67 : decode cX4_clear 67 = .ok (.iload_n 2, 1) := by decide +kernel
theorem dX4_clear_68 : decode cX4_clear 68 = .ok (.invokevirtual 61, 3) := by decide +kernel
theorem dX4_clear_71 : decode cX4_clear 71 = .ok (.i2l, 1) := by decide +kernel
theorem dX4_clear_72 : decode cX4_clear 72 = .ok (.aload_n 0, 1) := by decide +kernel
theorem dX4_clear_73 : decode cX4_clear 73 = .ok (.getfield 75, 3) := by decide +kernel
theorem dX4_clear_76 : decode cX4_clear 76 = .ok (.lmul, 1) := by decide +kernel
theorem dX4_clear_77 : decode cX4_clear 77 = .ok (.lcmp, 1) := by decide +kernel
theorem dX4_clear_78 : decode cX4_clear 78 = .ok (.ifCond .ge 7, 3) := by decide +kernel
theorem dX4_clear_81 : decode cX4_clear 81 = .ok (.iconst 1, 1) := by decide +kernel
theorem dX4_clear_82 : decode cX4_clear 82 = .ok (.goto 4, 3) := by decide +kernel
theorem dX4_clear_85 : decode cX4_clear 85 = .ok (.iconst 0, 1) := by decide +kernel
theorem dX4_clear_86 : decode cX4_clear 86 = .ok (.bastore, 1) := by decide +kernel
theorem dX4_clear_87 : decode cX4_clear 87 = .ok (.iload_n 1, 1) := by decide +kernel
theorem dX4_clear_88 : decode cX4_clear 88 = .ok (.ifCond .ne 12, 3) := by decide +kernel
theorem dX4_clear_91 : decode cX4_clear 91 = .ok (.aload_n 0, 1) := by decide +kernel
theorem dX4_clear_92 : decode cX4_clear 92 = .ok (.getfield 36, 3) := by decide +kernel
theorem dX4_clear_95 : decode cX4_clear 95 = .ok (.iload_n 2, 1) := by decide +kernel
theorem dX4_clear_96 : decode cX4_clear 96 = .ok (.baload, 1) := by decide +kernel
theorem dX4_clear_97 : decode cX4_clear 97 = .ok (.ifCond .eq 7, 3) := by decide +kernel
theorem dX4_clear_100 : decode cX4_clear 100 = .ok (.iconst 1, 1) := by decide +kernel
theorem dX4_clear_101 : decode cX4_clear 101 = .ok (.goto 4, 3) := by decide +kernel
theorem dX4_clear_104 : decode cX4_clear 104 = .ok (.iconst 0, 1) := by decide +kernel
theorem dX4_clear_105 : decode cX4_clear 105 = .ok (.istore_n 1, 1) := by decide +kernel
theorem dX4_clear_106 : decode cX4_clear 106 = .ok (.iinc 2 1, 3) := by decide +kernel
theorem dX4_clear_109 : decode cX4_clear 109 = .ok (.goto (-70), 3) := by decide +kernel
theorem dX4_clear_112 : decode cX4_clear 112 = .ok (.iload_n 1, 1) := by decide +kernel
theorem dX4_clear_113 : decode cX4_clear 113 = .ok (.ifCond .eq (-82), 3) := by decide +kernel
theorem dX4_clear_116 : decode cX4_clear 116 = .ok (.aload_n 0, 1) := by decide +kernel
theorem dX4_clear_117 : decode cX4_clear 117 = .ok (.dup, 1) := by decide +kernel
theorem dX4_clear_118 : decode cX4_clear 118 = .ok (.getfield 78, 3) := by decide +kernel
theorem dX4_clear_121 : decode cX4_clear 121 = .ok (.iconst 1, 1) := by decide +kernel
theorem dX4_clear_122 : decode cX4_clear 122 = .ok (.iadd, 1) := by decide +kernel
theorem dX4_clear_123 : decode cX4_clear 123 = .ok (.putfield 78, 3) := by decide +kernel
theorem dX4_clear_126 : decode cX4_clear 126 = .ok (.iconst 0, 1) := by decide +kernel
theorem dX4_clear_127 : decode cX4_clear 127 = .ok (.istore_n 2, 1) := by decide +kernel
theorem dX4_clear_128 : decode cX4_clear 128 = .ok (.iload_n 2, 1) := by decide +kernel
theorem dX4_clear_129 : decode cX4_clear 129 = .ok (.aload_n 0, 1) := by decide +kernel
theorem dX4_clear_130 : decode cX4_clear 130 = .ok (.getfield 7, 3) := by decide +kernel
theorem dX4_clear_133 : decode cX4_clear 133 = .ok (.if_icmp .ge 37, 3) := by decide +kernel
theorem dX4_clear_136 : decode cX4_clear 136 = .ok (.aload_n 0, 1) := by decide +kernel
theorem dX4_clear_137 : decode cX4_clear 137 = .ok (.getfield 21, 3) := by decide +kernel
theorem dX4_clear_140 : decode cX4_clear 140 = .ok (.iload_n 2, 1) := by decide +kernel
theorem dX4_clear_141 : decode cX4_clear 141 = .ok (.aload_n 0, 1) := by decide +kernel
theorem dX4_clear_142 : decode cX4_clear 142 = .ok (.getfield 36, 3) := by decide +kernel
theorem dX4_clear_145 : decode cX4_clear 145 = .ok (.iload_n 2, 1) := by decide +kernel
theorem dX4_clear_146 : decode cX4_clear 146 = .ok (.baload, 1) := by decide +kernel
theorem dX4_clear_147 : decode cX4_clear 147 = .ok (.ifCond .eq 10, 3) := by decide +kernel
theorem dX4_clear_150 : decode cX4_clear 150 = .ok (.aload_n 0, 1) := by decide +kernel
theorem dX4_clear_151 : decode cX4_clear 151 = .ok (.getfield 78, 3) := by decide +kernel
theorem dX4_clear_154 : decode cX4_clear 154 = .ok (.goto 9, 3) := by decide +kernel
theorem dX4_clear_157 : decode cX4_clear 157 = .ok (.aload_n 0, 1) := by decide +kernel
theorem dX4_clear_158 : decode cX4_clear 158 = .ok (.getfield 21, 3) := by decide +kernel
theorem dX4_clear_161 : decode cX4_clear 161 = .ok (.iload_n 2, 1) := by decide +kernel
theorem dX4_clear_162 : decode cX4_clear 162 = .ok (.iaload, 1) := by decide +kernel
theorem dX4_clear_163 : decode cX4_clear 163 = .ok (.iastore, 1) := by decide +kernel
theorem dX4_clear_164 : decode cX4_clear 164 = .ok (.iinc 2 1, 3) := by decide +kernel
theorem dX4_clear_167 : decode cX4_clear 167 = .ok (.goto (-39), 3) := by decide +kernel
theorem dX4_clear_170 : decode cX4_clear 170 = .ok (.aload_n 0, 1) := by decide +kernel
theorem dX4_clear_171 : decode cX4_clear 171 = .ok (.invokevirtual 81, 3) := by decide +kernel
theorem dX4_clear_174 : decode cX4_clear 174 = .ok (.goto (-143), 3) := by decide +kernel
theorem dX4_clear_177 : decode cX4_clear 177 = .ok (.return_, 1) := by decide +kernel
theorem dX4_common_0 : decode cX4_common 0 = .ok (.lload_n 0, 1) := by decide +kernel
theorem dX4_common_1 : decode cX4_common 1 = .ok (.lstore 4, 2) := by decide +kernel
theorem dX4_common_3 : decode cX4_common 3 = .ok (.lload_n 2, 1) := by decide +kernel
theorem dX4_common_4 : decode cX4_common 4 = .ok (.lstore 6, 2) := by decide +kernel
theorem dX4_common_6 : decode cX4_common 6 = .ok (.lload 6, 2) := by decide +kernel
theorem dX4_common_8 : decode cX4_common 8 = .ok (.lconst 0, 1) := by decide +kernel
theorem dX4_common_9 : decode cX4_common 9 = .ok (.lcmp, 1) := by decide +kernel
theorem dX4_common_10 : decode cX4_common 10 = .ok (.ifCond .eq 21, 3) := by decide +kernel
theorem dX4_common_13 : decode cX4_common 13 = .ok (.lload 4, 2) := by decide +kernel
theorem dX4_common_15 : decode cX4_common 15 = .ok (.lload 6, 2) := by decide +kernel
theorem dX4_common_17 : decode cX4_common 17 = .ok (.lrem, 1) := by decide +kernel
theorem dX4_common_18 : decode cX4_common 18 = .ok (.lstore 8, 2) := by decide +kernel
theorem dX4_common_20 : decode cX4_common 20 = .ok (.lload 6, 2) := by decide +kernel
theorem dX4_common_22 : decode cX4_common 22 = .ok (.lstore 4, 2) := by decide +kernel
theorem dX4_common_24 : decode cX4_common 24 = .ok (.lload 8, 2) := by decide +kernel
theorem dX4_common_26 : decode cX4_common 26 = .ok (.lstore 6, 2) := by decide +kernel
theorem dX4_common_28 : decode cX4_common 28 = .ok (.goto (-22), 3) := by decide +kernel
theorem dX4_common_31 : decode cX4_common 31 = .ok (.lload 4, 2) := by decide +kernel
theorem dX4_common_33 : decode cX4_common 33 = .ok (.lreturn, 1) := by decide +kernel
theorem dX4_part_0 : decode cX4_part 0 = .ok (.lload_n 0, 1) := by decide +kernel
theorem dX4_part_1 : decode cX4_part 1 = .ok (.lload_n 2, 1) := by decide +kernel
theorem dX4_part_2 : decode cX4_part 2 = .ok (.invokestatic 87, 3) := by decide +kernel
theorem dX4_part_5 : decode cX4_part 5 = .ok (.lstore 5, 2) := by decide +kernel
theorem dX4_part_7 : decode cX4_part 7 = .ok (.iload 4, 2) := by decide +kernel
theorem dX4_part_9 : decode cX4_part 9 = .ok (.ifCond .ne 10, 3) := by decide +kernel
theorem dX4_part_12 : decode cX4_part 12 = .ok (.lload_n 0, 1) := by decide +kernel
theorem dX4_part_13 : decode cX4_part 13 = .ok (.lload 5, 2) := by decide +kernel
theorem dX4_part_15 : decode cX4_part 15 = .ok (.ldiv, 1) := by decide +kernel
theorem dX4_part_16 : decode cX4_part 16 = .ok (.goto 7, 3) := by decide +kernel
theorem dX4_part_19 : decode cX4_part 19 = .ok (.lload_n 2, 1) := by decide +kernel
theorem dX4_part_20 : decode cX4_part 20 = .ok (.lload 5, 2) := by decide +kernel
theorem dX4_part_22 : decode cX4_part 22 = .ok (.ldiv, 1) := by decide +kernel
theorem dX4_part_23 : decode cX4_part 23 = .ok (.lreturn, 1) := by decide +kernel
theorem dX4_falls_0 : decode cX4_falls 0 = .ok (.aload_n 0, 1) := by decide +kernel
theorem dX4_falls_1 : decode cX4_falls 1 = .ok (.iload_n 1, 1) := by decide +kernel
theorem dX4_falls_2 : decode cX4_falls 2 = .ok (.invokevirtual 57, 3) := by decide +kernel
theorem dX4_falls_5 : decode cX4_falls 5 = .ok (.ifCond .ne 6, 3) := by decide +kernel
theorem dX4_falls_8 : decode cX4_falls 8 = .ok (.bipush (-101), 2) := by decide +kernel
theorem dX4_falls_10 : decode cX4_falls 10 = .ok (.ireturn, 1) := by decide +kernel
theorem dX4_falls_11 : decode cX4_falls 11 = .ok (.aload_n 0, 1) := by decide +kernel
theorem dX4_falls_12 : decode cX4_falls 12 = .ok (.invokevirtual 91, 3) := by decide +kernel
theorem dX4_falls_15 : decode cX4_falls 15 = .ok (.aload_n 0, 1) := by decide +kernel
theorem dX4_falls_16 : decode cX4_falls 16 = .ok (.getfield 21, 3) := by decide +kernel
theorem dX4_falls_19 : decode cX4_falls 19 = .ok (.iload_n 1, 1) := by decide +kernel
theorem dX4_falls_20 : decode cX4_falls 20 = .ok (.iaload, 1) := by decide +kernel
theorem dX4_falls_21 : decode cX4_falls 21 = .ok (.ireturn, 1) := by decide +kernel
theorem dX4_rounds_0 : decode cX4_rounds 0 = .ok (.aload_n 0, 1) := by decide +kernel
theorem dX4_rounds_1 : decode cX4_rounds 1 = .ok (.invokevirtual 91, 3) := by decide +kernel
theorem dX4_rounds_4 : decode cX4_rounds 4 = .ok (.aload_n 0, 1) := by decide +kernel
theorem dX4_rounds_5 : decode cX4_rounds 5 = .ok (.getfield 78, 3) := by decide +kernel
theorem dX4_rounds_8 : decode cX4_rounds 8 = .ok (.ireturn, 1) := by decide +kernel
theorem dX4_share_0 : decode cX4_share 0 = .ok (.aload_n 0, 1) := by decide +kernel
theorem dX4_share_1 : decode cX4_share 1 = .ok (.iload_n 1, 1) := by decide +kernel
theorem dX4_share_2 : decode cX4_share 2 = .ok (.invokevirtual 57, 3) := by decide +kernel
theorem dX4_share_5 : decode cX4_share 5 = .ok (.ifCond .ne 7, 3) := by decide +kernel
theorem dX4_share_8 : decode cX4_share 8 = .ok (.ldc2_w 94, 3) := by decide +kernel
theorem dX4_share_11 : decode cX4_share 11 = .ok (.lreturn, 1) := by decide +kernel
theorem dX4_share_12 : decode cX4_share 12 = .ok (.iload_n 2, 1) := by decide +kernel
theorem dX4_share_13 : decode cX4_share 13 = .ok (.iconst 0, 1) := by decide +kernel
theorem dX4_share_14 : decode cX4_share 14 = .ok (.iconst 1, 1) := by decide +kernel
theorem dX4_share_15 : decode cX4_share 15 = .ok (.invokestatic 46, 3) := by decide +kernel
theorem dX4_share_18 : decode cX4_share 18 = .ok (.ifCond .ne 7, 3) := by decide +kernel
theorem dX4_share_21 : decode cX4_share 21 = .ok (.ldc2_w 96, 3) := by decide +kernel
theorem dX4_share_24 : decode cX4_share 24 = .ok (.lreturn, 1) := by decide +kernel
theorem dX4_share_25 : decode cX4_share 25 = .ok (.aload_n 0, 1) := by decide +kernel
theorem dX4_share_26 : decode cX4_share 26 = .ok (.invokevirtual 91, 3) := by decide +kernel
theorem dX4_share_29 : decode cX4_share 29 = .ok (.aload_n 0, 1) := by decide +kernel
theorem dX4_share_30 : decode cX4_share 30 = .ok (.getfield 24, 3) := by decide +kernel
theorem dX4_share_33 : decode cX4_share 33 = .ok (.iload_n 1, 1) := by decide +kernel
theorem dX4_share_34 : decode cX4_share 34 = .ok (.laload, 1) := by decide +kernel
theorem dX4_share_35 : decode cX4_share 35 = .ok (.aload_n 0, 1) := by decide +kernel
theorem dX4_share_36 : decode cX4_share 36 = .ok (.getfield 75, 3) := by decide +kernel
theorem dX4_share_39 : decode cX4_share 39 = .ok (.iload_n 2, 1) := by decide +kernel
theorem dX4_share_40 : decode cX4_share 40 = .ok (.invokestatic 98, 3) := by decide +kernel
theorem dX4_share_43 : decode cX4_share 43 = .ok (.lreturn, 1) := by decide +kernel
theorem dX4_gross_0 : decode cX4_gross 0 = .ok (.aload_n 0, 1) := by decide +kernel
theorem dX4_gross_1 : decode cX4_gross 1 = .ok (.iload_n 1, 1) := by decide +kernel
theorem dX4_gross_2 : decode cX4_gross 2 = .ok (.invokevirtual 57, 3) := by decide +kernel
theorem dX4_gross_5 : decode cX4_gross 5 = .ok (.ifCond .ne 7, 3) := by decide +kernel
theorem dX4_gross_8 : decode cX4_gross 8 = .ok (.ldc2_w 94, 3) := by decide +kernel
theorem dX4_gross_11 : decode cX4_gross 11 = .ok (.lreturn, 1) := by decide +kernel
theorem dX4_gross_12 : decode cX4_gross 12 = .ok (.iload_n 2, 1) := by decide +kernel
theorem dX4_gross_13 : decode cX4_gross 13 = .ok (.iconst 0, 1) := by decide +kernel
theorem dX4_gross_14 : decode cX4_gross 14 = .ok (.iconst 1, 1) := by decide +kernel
theorem dX4_gross_15 : decode cX4_gross 15 = .ok (.invokestatic 46, 3) := by decide +kernel
theorem dX4_gross_18 : decode cX4_gross 18 = .ok (.ifCond .ne 7, 3) := by decide +kernel
theorem dX4_gross_21 : decode cX4_gross 21 = .ok (.ldc2_w 96, 3) := by decide +kernel
theorem dX4_gross_24 : decode cX4_gross 24 = .ok (.lreturn, 1) := by decide +kernel
theorem dX4_gross_25 : decode cX4_gross 25 = .ok (.aload_n 0, 1) := by decide +kernel
theorem dX4_gross_26 : decode cX4_gross 26 = .ok (.invokevirtual 91, 3) := by decide +kernel
theorem dX4_gross_29 : decode cX4_gross 29 = .ok (.aload_n 0, 1) := by decide +kernel
theorem dX4_gross_30 : decode cX4_gross 30 = .ok (.iload_n 1, 1) := by decide +kernel
theorem dX4_gross_31 : decode cX4_gross 31 = .ok (.invokevirtual 84, 3) := by decide +kernel
theorem dX4_gross_34 : decode cX4_gross 34 = .ok (.aload_n 0, 1) := by decide +kernel
theorem dX4_gross_35 : decode cX4_gross 35 = .ok (.getfield 75, 3) := by decide +kernel
theorem dX4_gross_38 : decode cX4_gross 38 = .ok (.iload_n 2, 1) := by decide +kernel
theorem dX4_gross_39 : decode cX4_gross 39 = .ok (.invokestatic 98, 3) := by decide +kernel
theorem dX4_gross_42 : decode cX4_gross 42 = .ok (.lreturn, 1) := by decide +kernel
theorem dX4_pays_0 : decode cX4_pays 0 = .ok (.aload_n 0, 1) := by decide +kernel
theorem dX4_pays_1 : decode cX4_pays 1 = .ok (.iload_n 1, 1) := by decide +kernel
theorem dX4_pays_2 : decode cX4_pays 2 = .ok (.invokevirtual 57, 3) := by decide +kernel
theorem dX4_pays_5 : decode cX4_pays 5 = .ok (.ifCond .eq 15, 3) := by decide +kernel
theorem dX4_pays_8 : decode cX4_pays 8 = .ok (.iload_n 2, 1) := by decide +kernel
theorem dX4_pays_9 : decode cX4_pays 9 = .ok (.iconst 0, 1) := by decide +kernel
theorem dX4_pays_10 : decode cX4_pays 10 = .ok (.aload_n 0, 1) := by decide +kernel
theorem dX4_pays_11 : decode cX4_pays 11 = .ok (.getfield 7, 3) := by decide +kernel
theorem dX4_pays_14 : decode cX4_pays 14 = .ok (.invokestatic 46, 3) := by decide +kernel
theorem dX4_pays_17 : decode cX4_pays 17 = .ok (.ifCond .ne 7, 3) := by decide +kernel
theorem dX4_pays_20 : decode cX4_pays 20 = .ok (.ldc2_w 94, 3) := by decide +kernel
theorem dX4_pays_23 : decode cX4_pays 23 = .ok (.lreturn, 1) := by decide +kernel
theorem dX4_pays_24 : decode cX4_pays 24 = .ok (.iload_n 3, 1) := by decide +kernel
theorem dX4_pays_25 : decode cX4_pays 25 = .ok (.iconst 0, 1) := by decide +kernel
theorem dX4_pays_26 : decode cX4_pays 26 = .ok (.iconst 1, 1) := by decide +kernel
theorem dX4_pays_27 : decode cX4_pays 27 = .ok (.invokestatic 46, 3) := by decide +kernel
theorem dX4_pays_30 : decode cX4_pays 30 = .ok (.ifCond .ne 7, 3) := by decide +kernel
theorem dX4_pays_33 : decode cX4_pays 33 = .ok (.ldc2_w 96, 3) := by decide +kernel
theorem dX4_pays_36 : decode cX4_pays 36 = .ok (.lreturn, 1) := by decide +kernel
theorem dX4_pays_37 : decode cX4_pays 37 = .ok (.aload_n 0, 1) := by decide +kernel
theorem dX4_pays_38 : decode cX4_pays 38 = .ok (.invokevirtual 91, 3) := by decide +kernel
theorem dX4_pays_41 : decode cX4_pays 41 = .ok (.aload_n 0, 1) := by decide +kernel
theorem dX4_pays_42 : decode cX4_pays 42 = .ok (.getfield 24, 3) := by decide +kernel
theorem dX4_pays_45 : decode cX4_pays 45 = .ok (.iload_n 1, 1) := by decide +kernel
theorem dX4_pays_46 : decode cX4_pays 46 = .ok (.laload, 1) := by decide +kernel
theorem dX4_pays_47 : decode cX4_pays 47 = .ok (.aload_n 0, 1) := by decide +kernel
theorem dX4_pays_48 : decode cX4_pays 48 = .ok (.getfield 17, 3) := by decide +kernel
theorem dX4_pays_51 : decode cX4_pays 51 = .ok (.iconst 5, 1) := by decide +kernel
theorem dX4_pays_52 : decode cX4_pays 52 = .ok (.iload_n 1, 1) := by decide +kernel
theorem dX4_pays_53 : decode cX4_pays 53 = .ok (.imul, 1) := by decide +kernel
theorem dX4_pays_54 : decode cX4_pays 54 = .ok (.iload_n 2, 1) := by decide +kernel
theorem dX4_pays_55 : decode cX4_pays 55 = .ok (.iadd, 1) := by decide +kernel
theorem dX4_pays_56 : decode cX4_pays 56 = .ok (.iaload, 1) := by decide +kernel
theorem dX4_pays_57 : decode cX4_pays 57 = .ok (.i2l, 1) := by decide +kernel
theorem dX4_pays_58 : decode cX4_pays 58 = .ok (.lmul, 1) := by decide +kernel
theorem dX4_pays_59 : decode cX4_pays 59 = .ok (.aload_n 0, 1) := by decide +kernel
theorem dX4_pays_60 : decode cX4_pays 60 = .ok (.getfield 75, 3) := by decide +kernel
theorem dX4_pays_63 : decode cX4_pays 63 = .ok (.iload_n 3, 1) := by decide +kernel
theorem dX4_pays_64 : decode cX4_pays 64 = .ok (.invokestatic 98, 3) := by decide +kernel
theorem dX4_pays_67 : decode cX4_pays 67 = .ok (.lreturn, 1) := by decide +kernel
theorem dX4_left_0 : decode cX4_left 0 = .ok (.aload_n 0, 1) := by decide +kernel
theorem dX4_left_1 : decode cX4_left 1 = .ok (.iload_n 1, 1) := by decide +kernel
theorem dX4_left_2 : decode cX4_left 2 = .ok (.invokevirtual 57, 3) := by decide +kernel
theorem dX4_left_5 : decode cX4_left 5 = .ok (.ifCond .ne 7, 3) := by decide +kernel
theorem dX4_left_8 : decode cX4_left 8 = .ok (.ldc2_w 94, 3) := by decide +kernel
theorem dX4_left_11 : decode cX4_left 11 = .ok (.lreturn, 1) := by decide +kernel
theorem dX4_left_12 : decode cX4_left 12 = .ok (.iload_n 2, 1) := by decide +kernel
theorem dX4_left_13 : decode cX4_left 13 = .ok (.iconst 0, 1) := by decide +kernel
theorem dX4_left_14 : decode cX4_left 14 = .ok (.iconst 1, 1) := by decide +kernel
theorem dX4_left_15 : decode cX4_left 15 = .ok (.invokestatic 46, 3) := by decide +kernel
theorem dX4_left_18 : decode cX4_left 18 = .ok (.ifCond .ne 7, 3) := by decide +kernel
theorem dX4_left_21 : decode cX4_left 21 = .ok (.ldc2_w 96, 3) := by decide +kernel
theorem dX4_left_24 : decode cX4_left 24 = .ok (.lreturn, 1) := by decide +kernel
theorem dX4_left_25 : decode cX4_left 25 = .ok (.aload_n 0, 1) := by decide +kernel
theorem dX4_left_26 : decode cX4_left 26 = .ok (.invokevirtual 91, 3) := by decide +kernel
theorem dX4_left_29 : decode cX4_left 29 = .ok (.aload_n 0, 1) := by decide +kernel
theorem dX4_left_30 : decode cX4_left 30 = .ok (.getfield 21, 3) := by decide +kernel
theorem dX4_left_33 : decode cX4_left 33 = .ok (.iload_n 1, 1) := by decide +kernel
theorem dX4_left_34 : decode cX4_left 34 = .ok (.iaload, 1) := by decide +kernel
theorem dX4_left_35 : decode cX4_left 35 = .ok (.ifCond .le 7, 3) := by decide +kernel
theorem dX4_left_38 : decode cX4_left 38 = .ok (.lconst 0, 1) := by decide +kernel
theorem dX4_left_39 : decode cX4_left 39 = .ok (.goto 20, 3) := by decide +kernel
theorem dX4_left_42 : decode cX4_left 42 = .ok (.aload_n 0, 1) := by decide +kernel
theorem dX4_left_43 : decode cX4_left 43 = .ok (.iload_n 1, 1) := by decide +kernel
theorem dX4_left_44 : decode cX4_left 44 = .ok (.invokevirtual 84, 3) := by decide +kernel
theorem dX4_left_47 : decode cX4_left 47 = .ok (.aload_n 0, 1) := by decide +kernel
theorem dX4_left_48 : decode cX4_left 48 = .ok (.iload_n 1, 1) := by decide +kernel
theorem dX4_left_49 : decode cX4_left 49 = .ok (.invokevirtual 61, 3) := by decide +kernel
theorem dX4_left_52 : decode cX4_left 52 = .ok (.i2l, 1) := by decide +kernel
theorem dX4_left_53 : decode cX4_left 53 = .ok (.aload_n 0, 1) := by decide +kernel
theorem dX4_left_54 : decode cX4_left 54 = .ok (.getfield 75, 3) := by decide +kernel
theorem dX4_left_57 : decode cX4_left 57 = .ok (.lmul, 1) := by decide +kernel
theorem dX4_left_58 : decode cX4_left 58 = .ok (.lsub, 1) := by decide +kernel
theorem dX4_left_59 : decode cX4_left 59 = .ok (.aload_n 0, 1) := by decide +kernel
theorem dX4_left_60 : decode cX4_left 60 = .ok (.getfield 75, 3) := by decide +kernel
theorem dX4_left_63 : decode cX4_left 63 = .ok (.iload_n 2, 1) := by decide +kernel
theorem dX4_left_64 : decode cX4_left 64 = .ok (.invokestatic 98, 3) := by decide +kernel
theorem dX4_left_67 : decode cX4_left 67 = .ok (.lreturn, 1) := by decide +kernel
theorem dX4_lost_0 : decode cX4_lost 0 = .ok (.iload_n 1, 1) := by decide +kernel
theorem dX4_lost_1 : decode cX4_lost 1 = .ok (.iconst 0, 1) := by decide +kernel
theorem dX4_lost_2 : decode cX4_lost 2 = .ok (.iconst 1, 1) := by decide +kernel
theorem dX4_lost_3 : decode cX4_lost 3 = .ok (.invokestatic 46, 3) := by decide +kernel
theorem dX4_lost_6 : decode cX4_lost 6 = .ok (.ifCond .ne 7, 3) := by decide +kernel
theorem dX4_lost_9 : decode cX4_lost 9 = .ok (.ldc2_w 96, 3) := by decide +kernel
theorem dX4_lost_12 : decode cX4_lost 12 = .ok (.lreturn, 1) := by decide +kernel
theorem dX4_lost_13 : decode cX4_lost 13 = .ok (.aload_n 0, 1) := by decide +kernel
theorem dX4_lost_14 : decode cX4_lost 14 = .ok (.invokevirtual 91, 3) := by decide +kernel
theorem dX4_lost_17 : decode cX4_lost 17 = .ok (.lconst 0, 1) := by decide +kernel
theorem dX4_lost_18 : decode cX4_lost 18 = .ok (.lstore_n 2, 1) := by decide +kernel
theorem dX4_lost_19 : decode cX4_lost 19 = .ok (.iconst 0, 1) := by decide +kernel
theorem dX4_lost_20 : decode cX4_lost 20 = .ok (.istore 4, 2) := by decide +kernel
theorem dX4_lost_22 : decode cX4_lost 22 = .ok (.iload 4, 2) := by decide +kernel
theorem dX4_lost_24 : decode cX4_lost 24 = .ok (.aload_n 0, 1) := by decide +kernel
theorem dX4_lost_25 : decode cX4_lost 25 = .ok (.getfield 7, 3) := by decide +kernel
theorem dX4_lost_28 : decode cX4_lost 28 = .ok (.if_icmp .ge 32, 3) := by decide +kernel
theorem dX4_lost_31 : decode cX4_lost 31 = .ok (.lload_n 2, 1) := by decide +kernel
theorem dX4_lost_32 : decode cX4_lost 32 = .ok (.aload_n 0, 1) := by decide +kernel
theorem dX4_lost_33 : decode cX4_lost 33 = .ok (.getfield 21, 3) := by decide +kernel
theorem dX4_lost_36 : decode cX4_lost 36 = .ok (.iload 4, 2) := by decide +kernel
theorem dX4_lost_38 : decode cX4_lost 38 = .ok (.iaload, 1) := by decide +kernel
theorem dX4_lost_39 : decode cX4_lost 39 = .ok (.ifCond .le 12, 3) := by decide +kernel
theorem dX4_lost_42 : decode cX4_lost 42 = .ok (.aload_n 0, 1) := by decide +kernel
theorem dX4_lost_43 : decode cX4_lost 43 = .ok (.iload 4, 2) := by decide +kernel
theorem dX4_lost_45 : decode cX4_lost 45 = .ok (.invokevirtual 84, 3) := by decide +kernel
theorem dX4_lost_48 : decode cX4_lost 48 = .ok (.goto 4, 3) := by decide +kernel
theorem dX4_lost_51 : decode cX4_lost 51 = .ok (.lconst 0, 1) := by decide +kernel
theorem dX4_lost_52 : decode cX4_lost 52 = .ok (.ladd, 1) := by decide +kernel
theorem dX4_lost_53 : decode cX4_lost 53 = .ok (.lstore_n 2, 1) := by decide +kernel
theorem dX4_lost_54 : decode cX4_lost 54 = .ok (.iinc 4 1, 3) := by decide +kernel
theorem dX4_lost_57 : decode cX4_lost 57 = .ok (.goto (-35), 3) := by decide +kernel
theorem dX4_lost_60 : decode cX4_lost 60 = .ok (.lload_n 2, 1) := by decide +kernel
theorem dX4_lost_61 : decode cX4_lost 61 = .ok (.aload_n 0, 1) := by decide +kernel
theorem dX4_lost_62 : decode cX4_lost 62 = .ok (.getfield 50, 3) := by decide +kernel
theorem dX4_lost_65 : decode cX4_lost 65 = .ok (.i2l, 1) := by decide +kernel
theorem dX4_lost_66 : decode cX4_lost 66 = .ok (.lmul, 1) := by decide +kernel
theorem dX4_lost_67 : decode cX4_lost 67 = .ok (.aload_n 0, 1) := by decide +kernel
theorem dX4_lost_68 : decode cX4_lost 68 = .ok (.getfield 75, 3) := by decide +kernel
theorem dX4_lost_71 : decode cX4_lost 71 = .ok (.ldc2_w 69, 3) := by decide +kernel
theorem dX4_lost_74 : decode cX4_lost 74 = .ok (.lmul, 1) := by decide +kernel
theorem dX4_lost_75 : decode cX4_lost 75 = .ok (.iload_n 1, 1) := by decide +kernel
theorem dX4_lost_76 : decode cX4_lost 76 = .ok (.invokestatic 98, 3) := by decide +kernel
theorem dX4_lost_79 : decode cX4_lost 79 = .ok (.lreturn, 1) := by decide +kernel
theorem dX4_drag_0 : decode cX4_drag 0 = .ok (.aload_n 0, 1) := by decide +kernel
theorem dX4_drag_1 : decode cX4_drag 1 = .ok (.iload_n 1, 1) := by decide +kernel
theorem dX4_drag_2 : decode cX4_drag 2 = .ok (.invokevirtual 57, 3) := by decide +kernel
theorem dX4_drag_5 : decode cX4_drag 5 = .ok (.ifCond .ne 6, 3) := by decide +kernel
theorem dX4_drag_8 : decode cX4_drag 8 = .ok (.bipush (-101), 2) := by decide +kernel
theorem dX4_drag_10 : decode cX4_drag 10 = .ok (.ireturn, 1) := by decide +kernel
theorem dX4_drag_11 : decode cX4_drag 11 = .ok (.aload_n 0, 1) := by decide +kernel
theorem dX4_drag_12 : decode cX4_drag 12 = .ok (.getfield 13, 3) := by decide +kernel
theorem dX4_drag_15 : decode cX4_drag 15 = .ok (.iload_n 1, 1) := by decide +kernel
theorem dX4_drag_16 : decode cX4_drag 16 = .ok (.laload, 1) := by decide +kernel
theorem dX4_drag_17 : decode cX4_drag 17 = .ok (.lstore_n 2, 1) := by decide +kernel
theorem dX4_drag_18 : decode cX4_drag 18 = .ok (.aload_n 0, 1) := by decide +kernel
theorem dX4_drag_19 : decode cX4_drag 19 = .ok (.getfield 13, 3) := by decide +kernel
theorem dX4_drag_22 : decode cX4_drag 22 = .ok (.iload_n 1, 1) := by decide +kernel
theorem dX4_drag_23 : decode cX4_drag 23 = .ok (.lconst 0, 1) := by decide +kernel
theorem dX4_drag_24 : decode cX4_drag 24 = .ok (.lastore, 1) := by decide +kernel
theorem dX4_drag_25 : decode cX4_drag 25 = .ok (.aload_n 0, 1) := by decide +kernel
theorem dX4_drag_26 : decode cX4_drag 26 = .ok (.invokevirtual 91, 3) := by decide +kernel
theorem dX4_drag_29 : decode cX4_drag 29 = .ok (.aload_n 0, 1) := by decide +kernel
theorem dX4_drag_30 : decode cX4_drag 30 = .ok (.getfield 13, 3) := by decide +kernel
theorem dX4_drag_33 : decode cX4_drag 33 = .ok (.iload_n 1, 1) := by decide +kernel
theorem dX4_drag_34 : decode cX4_drag 34 = .ok (.lload_n 2, 1) := by decide +kernel
theorem dX4_drag_35 : decode cX4_drag 35 = .ok (.lastore, 1) := by decide +kernel
theorem dX4_drag_36 : decode cX4_drag 36 = .ok (.iconst 0, 1) := by decide +kernel
theorem dX4_drag_37 : decode cX4_drag 37 = .ok (.istore 4, 2) := by decide +kernel
theorem dX4_drag_39 : decode cX4_drag 39 = .ok (.iconst 0, 1) := by decide +kernel
theorem dX4_drag_40 : decode cX4_drag 40 = .ok (.istore 5, 2) := by decide +kernel
theorem dX4_drag_42 : decode cX4_drag 42 = .ok (.iload 5, 2) := by decide +kernel
theorem dX4_drag_44 : decode cX4_drag 44 = .ok (.aload_n 0, 1) := by decide +kernel
theorem dX4_drag_45 : decode cX4_drag 45 = .ok (.getfield 7, 3) := by decide +kernel
theorem dX4_drag_48 : decode cX4_drag 48 = .ok (.if_icmp .ge 29, 3) := by decide +kernel
theorem dX4_drag_51 : decode cX4_drag 51 = .ok (.iload 4, 2) := by decide +kernel
theorem dX4_drag_53 : decode cX4_drag 53 = .ok (.aload_n 0, 1) := by decide +kernel
theorem dX4_drag_54 : decode cX4_drag 54 = .ok (.getfield 21, 3) := by decide +kernel
theorem dX4_drag_57 : decode cX4_drag 57 = .ok (.iload 5, 2) := by decide +kernel
theorem dX4_drag_59 : decode cX4_drag 59 = .ok (.iaload, 1) := by decide +kernel
theorem dX4_drag_60 : decode cX4_drag 60 = .ok (.ifCond .le 7, 3) := by decide +kernel
theorem dX4_drag_63 : decode cX4_drag 63 = .ok (.iconst 1, 1) := by decide +kernel
theorem dX4_drag_64 : decode cX4_drag 64 = .ok (.goto 4, 3) := by decide +kernel
theorem dX4_drag_67 : decode cX4_drag 67 = .ok (.iconst 0, 1) := by decide +kernel
theorem dX4_drag_68 : decode cX4_drag 68 = .ok (.iadd, 1) := by decide +kernel
theorem dX4_drag_69 : decode cX4_drag 69 = .ok (.istore 4, 2) := by decide +kernel
theorem dX4_drag_71 : decode cX4_drag 71 = .ok (.iinc 5 1, 3) := by decide +kernel
theorem dX4_drag_74 : decode cX4_drag 74 = .ok (.goto (-32), 3) := by decide +kernel
theorem dX4_drag_77 : decode cX4_drag 77 = .ok (.iload 4, 2) := by decide +kernel
theorem dX4_drag_79 : decode cX4_drag 79 = .ok (.ireturn, 1) := by decide +kernel
theorem dX4_helpOf_0 : decode cX4_helpOf 0 = .ok (.lconst 0, 1) := by decide +kernel
theorem dX4_helpOf_1 : decode cX4_helpOf 1 = .ok (.lstore_n 2, 1) := by decide +kernel
theorem dX4_helpOf_2 : decode cX4_helpOf 2 = .ok (.iconst 0, 1) := by decide +kernel
theorem dX4_helpOf_3 : decode cX4_helpOf 3 = .ok (.istore 4, 2) := by decide +kernel
theorem dX4_helpOf_5 : decode cX4_helpOf 5 = .ok (.iload 4, 2) := by decide +kernel
theorem dX4_helpOf_7 : decode cX4_helpOf 7 = .ok (.aload_n 0, 1) := by decide +kernel
theorem dX4_helpOf_8 : decode cX4_helpOf 8 = .ok (.getfield 7, 3) := by decide +kernel
theorem dX4_helpOf_11 : decode cX4_helpOf 11 = .ok (.if_icmp .ge 104, 3) := by decide +kernel
theorem dX4_helpOf_14 : decode cX4_helpOf 14 = .ok (.aload_n 0, 1) := by decide +kernel
theorem dX4_helpOf_15 : decode cX4_helpOf 15 = .ok (.getfield 13, 3) := by decide +kernel
theorem dX4_helpOf_18 : decode cX4_helpOf 18 = .ok (.iload 4, 2) := by decide +kernel
theorem dX4_helpOf_20 : decode cX4_helpOf 20 = .ok (.laload, 1) := by decide +kernel
theorem dX4_helpOf_21 : decode cX4_helpOf 21 = .ok (.lstore 5, 2) := by decide +kernel
theorem dX4_helpOf_23 : decode cX4_helpOf 23 = .ok (.iconst 0, 1) := by decide +kernel
theorem dX4_helpOf_24 : decode cX4_helpOf 24 = .ok (.istore 7, 2) := by decide +kernel
theorem dX4_helpOf_26 : decode cX4_helpOf 26 = .ok (.iload 7, 2) := by decide +kernel
theorem dX4_helpOf_28 : decode cX4_helpOf 28 = .ok (.aload_n 0, 1) := by decide +kernel
theorem dX4_helpOf_29 : decode cX4_helpOf 29 = .ok (.getfield 7, 3) := by decide +kernel
theorem dX4_helpOf_32 : decode cX4_helpOf 32 = .ok (.if_icmp .ge 27, 3) := by decide +kernel
theorem dX4_helpOf_35 : decode cX4_helpOf 35 = .ok (.lload 5, 2) := by decide +kernel
theorem dX4_helpOf_37 : decode cX4_helpOf 37 = .ok (.aload_n 0, 1) := by decide +kernel
theorem dX4_helpOf_38 : decode cX4_helpOf 38 = .ok (.getfield 17, 3) := by decide +kernel
theorem dX4_helpOf_41 : decode cX4_helpOf 41 = .ok (.iconst 5, 1) := by decide +kernel
theorem dX4_helpOf_42 : decode cX4_helpOf 42 = .ok (.iload 7, 2) := by decide +kernel
theorem dX4_helpOf_44 : decode cX4_helpOf 44 = .ok (.imul, 1) := by decide +kernel
theorem dX4_helpOf_45 : decode cX4_helpOf 45 = .ok (.iload 4, 2) := by decide +kernel
theorem dX4_helpOf_47 : decode cX4_helpOf 47 = .ok (.iadd, 1) := by decide +kernel
theorem dX4_helpOf_48 : decode cX4_helpOf 48 = .ok (.iaload, 1) := by decide +kernel
theorem dX4_helpOf_49 : decode cX4_helpOf 49 = .ok (.i2l, 1) := by decide +kernel
theorem dX4_helpOf_50 : decode cX4_helpOf 50 = .ok (.ladd, 1) := by decide +kernel
theorem dX4_helpOf_51 : decode cX4_helpOf 51 = .ok (.lstore 5, 2) := by decide +kernel
theorem dX4_helpOf_53 : decode cX4_helpOf 53 = .ok (.iinc 7 1, 3) := by decide +kernel
theorem dX4_helpOf_56 : decode cX4_helpOf 56 = .ok (.goto (-30), 3) := by decide +kernel
theorem dX4_helpOf_59 : decode cX4_helpOf 59 = .ok (.aload_n 0, 1) := by decide +kernel
theorem dX4_helpOf_60 : decode cX4_helpOf 60 = .ok (.iload 4, 2) := by decide +kernel
theorem dX4_helpOf_62 : decode cX4_helpOf 62 = .ok (.invokevirtual 61, 3) := by decide +kernel
theorem dX4_helpOf_65 : decode cX4_helpOf 65 = .ok (.i2l, 1) := by decide +kernel
theorem dX4_helpOf_66 : decode cX4_helpOf 66 = .ok (.lload 5, 2) := by decide +kernel
theorem dX4_helpOf_68 : decode cX4_helpOf 68 = .ok (.lsub, 1) := by decide +kernel
theorem dX4_helpOf_69 : decode cX4_helpOf 69 = .ok (.lstore 7, 2) := by decide +kernel
theorem dX4_helpOf_71 : decode cX4_helpOf 71 = .ok (.lload 7, 2) := by decide +kernel
theorem dX4_helpOf_73 : decode cX4_helpOf 73 = .ok (.lconst 0, 1) := by decide +kernel
theorem dX4_helpOf_74 : decode cX4_helpOf 74 = .ok (.lcmp, 1) := by decide +kernel
theorem dX4_helpOf_75 : decode cX4_helpOf 75 = .ok (.ifCond .le 20, 3) := by decide +kernel
theorem dX4_helpOf_78 : decode cX4_helpOf 78 = .ok (.iload 4, 2) := by decide +kernel
theorem dX4_helpOf_80 : decode cX4_helpOf 80 = .ok (.iload_n 1, 1) := by decide +kernel
theorem dX4_helpOf_81 : decode cX4_helpOf 81 = .ok (.if_icmp .ne 12, 3) := by decide +kernel
theorem dX4_helpOf_84 : decode cX4_helpOf 84 = .ok (.lload 7, 2) := by decide +kernel
theorem dX4_helpOf_86 : decode cX4_helpOf 86 = .ok (.ldc2_w 102, 3) := by decide +kernel
theorem dX4_helpOf_89 : decode cX4_helpOf 89 = .ok (.lcmp, 1) := by decide +kernel
theorem dX4_helpOf_90 : decode cX4_helpOf 90 = .ok (.ifCond .le 5, 3) := by decide +kernel
theorem dX4_helpOf_93 : decode cX4_helpOf 93 = .ok (.iconst (-1), 1) := by decide +kernel
theorem dX4_helpOf_94 : decode cX4_helpOf 94 = .ok (.ireturn, 1) := by decide +kernel
theorem dX4_helpOf_95 : decode cX4_helpOf 95 = .ok (.lload 7, 2) := by decide +kernel
theorem dX4_helpOf_97 : decode cX4_helpOf 97 = .ok (.lconst 0, 1) := by decide +kernel
theorem dX4_helpOf_98 : decode cX4_helpOf 98 = .ok (.lcmp, 1) := by decide +kernel
theorem dX4_helpOf_99 : decode cX4_helpOf 99 = .ok (.ifCond .le 8, 3) := by decide +kernel
theorem dX4_helpOf_102 : decode cX4_helpOf 102 = .ok (.lload 7, 2) := by decide +kernel
theorem dX4_helpOf_104 : decode cX4_helpOf 104 = .ok (.goto 4, 3) := by decide +kernel
theorem dX4_helpOf_107 : decode cX4_helpOf 107 = .ok (.lload_n 2, 1) := by decide +kernel
theorem dX4_helpOf_108 : decode cX4_helpOf 108 = .ok (.lstore_n 2, 1) := by decide +kernel
theorem dX4_helpOf_109 : decode cX4_helpOf 109 = .ok (.iinc 4 1, 3) := by decide +kernel
theorem dX4_helpOf_112 : decode cX4_helpOf 112 = .ok (.goto (-107), 3) := by decide +kernel
theorem dX4_helpOf_115 : decode cX4_helpOf 115 = .ok (.lload_n 2, 1) := by decide +kernel
theorem dX4_helpOf_116 : decode cX4_helpOf 116 = .ok (.l2i, 1) := by decide +kernel
theorem dX4_helpOf_117 : decode cX4_helpOf 117 = .ok (.ireturn, 1) := by decide +kernel
theorem dX4_help_0 : decode cX4_help 0 = .ok (.aload_n 0, 1) := by decide +kernel
theorem dX4_help_1 : decode cX4_help 1 = .ok (.iload_n 1, 1) := by decide +kernel
theorem dX4_help_2 : decode cX4_help 2 = .ok (.invokevirtual 57, 3) := by decide +kernel
theorem dX4_help_5 : decode cX4_help 5 = .ok (.ifCond .eq 11, 3) := by decide +kernel
theorem dX4_help_8 : decode cX4_help 8 = .ok (.aload_n 0, 1) := by decide +kernel
theorem dX4_help_9 : decode cX4_help 9 = .ok (.iload_n 1, 1) := by decide +kernel
theorem dX4_help_10 : decode cX4_help 10 = .ok (.invokevirtual 104, 3) := by decide +kernel
theorem dX4_help_13 : decode cX4_help 13 = .ok (.goto 5, 3) := by decide +kernel
theorem dX4_help_16 : decode cX4_help 16 = .ok (.bipush (-101), 2) := by decide +kernel
theorem dX4_help_18 : decode cX4_help 18 = .ok (.ireturn, 1) := by decide +kernel
theorem dX4_best_0 : decode cX4_best 0 = .ok (.iconst (-1), 1) := by decide +kernel
theorem dX4_best_1 : decode cX4_best 1 = .ok (.istore_n 1, 1) := by decide +kernel
theorem dX4_best_2 : decode cX4_best 2 = .ok (.iconst 0, 1) := by decide +kernel
theorem dX4_best_3 : decode cX4_best 3 = .ok (.istore_n 2, 1) := by decide +kernel
theorem dX4_best_4 : decode cX4_best 4 = .ok (.iload_n 2, 1) := by decide +kernel
theorem dX4_best_5 : decode cX4_best 5 = .ok (.aload_n 0, 1) := by decide +kernel
theorem dX4_best_6 : decode cX4_best 6 = .ok (.getfield 7, 3) := by decide +kernel
theorem dX4_best_9 : decode cX4_best 9 = .ok (.if_icmp .ge 40, 3) := by decide +kernel
theorem dX4_best_12 : decode cX4_best 12 = .ok (.aload_n 0, 1) := by decide +kernel
theorem dX4_best_13 : decode cX4_best 13 = .ok (.iload_n 2, 1) := by decide +kernel
theorem dX4_best_14 : decode cX4_best 14 = .ok (.invokevirtual 104, 3) := by decide +kernel
theorem dX4_best_17 : decode cX4_best 17 = .ok (.istore_n 3, 1) := by decide +kernel
theorem dX4_best_18 : decode cX4_best 18 = .ok (.iload_n 3, 1) := by decide +kernel
theorem dX4_best_19 : decode cX4_best 19 = .ok (.iconst (-1), 1) := by decide +kernel
theorem dX4_best_20 : decode cX4_best 20 = .ok (.if_icmp .eq 21, 3) := by decide +kernel
theorem dX4_best_23 : decode cX4_best 23 = .ok (.iload_n 1, 1) := by decide +kernel
theorem dX4_best_24 : decode cX4_best 24 = .ok (.iconst (-1), 1) := by decide +kernel
theorem dX4_best_25 : decode cX4_best 25 = .ok (.if_icmp .eq 12, 3) := by decide +kernel
theorem dX4_best_28 : decode cX4_best 28 = .ok (.iload_n 3, 1) := by decide +kernel
theorem dX4_best_29 : decode cX4_best 29 = .ok (.aload_n 0, 1) := by decide +kernel
theorem dX4_best_30 : decode cX4_best 30 = .ok (.iload_n 1, 1) := by decide +kernel
theorem dX4_best_31 : decode cX4_best 31 = .ok (.invokevirtual 104, 3) := by decide +kernel
theorem dX4_best_34 : decode cX4_best 34 = .ok (.if_icmp .ge 7, 3) := by decide +kernel
theorem dX4_best_37 : decode cX4_best 37 = .ok (.iload_n 2, 1) := by decide +kernel
theorem dX4_best_38 : decode cX4_best 38 = .ok (.goto 4, 3) := by decide +kernel
theorem dX4_best_41 : decode cX4_best 41 = .ok (.iload_n 1, 1) := by decide +kernel
theorem dX4_best_42 : decode cX4_best 42 = .ok (.istore_n 1, 1) := by decide +kernel
theorem dX4_best_43 : decode cX4_best 43 = .ok (.iinc 2 1, 3) := by decide +kernel
theorem dX4_best_46 : decode cX4_best 46 = .ok (.goto (-42), 3) := by decide +kernel
theorem dX4_best_49 : decode cX4_best 49 = .ok (.iload_n 1, 1) := by decide +kernel
theorem dX4_best_50 : decode cX4_best 50 = .ok (.ireturn, 1) := by decide +kernel
theorem dX4_net_0 : decode cX4_net 0 = .ok (.aload_n 0, 1) := by decide +kernel
theorem dX4_net_1 : decode cX4_net 1 = .ok (.iload_n 1, 1) := by decide +kernel
theorem dX4_net_2 : decode cX4_net 2 = .ok (.invokevirtual 57, 3) := by decide +kernel
theorem dX4_net_5 : decode cX4_net 5 = .ok (.ifCond .ne 6, 3) := by decide +kernel
theorem dX4_net_8 : decode cX4_net 8 = .ok (.ldc 107, 2) := by decide +kernel
theorem dX4_net_10 : decode cX4_net 10 = .ok (.ireturn, 1) := by decide +kernel
theorem dX4_net_11 : decode cX4_net 11 = .ok (.aload_n 0, 1) := by decide +kernel
theorem dX4_net_12 : decode cX4_net 12 = .ok (.iload_n 1, 1) := by decide +kernel
theorem dX4_net_13 : decode cX4_net 13 = .ok (.invokevirtual 61, 3) := by decide +kernel
theorem dX4_net_16 : decode cX4_net 16 = .ok (.ineg, 1) := by decide +kernel
theorem dX4_net_17 : decode cX4_net 17 = .ok (.istore_n 2, 1) := by decide +kernel
theorem dX4_net_18 : decode cX4_net 18 = .ok (.iconst 0, 1) := by decide +kernel
theorem dX4_net_19 : decode cX4_net 19 = .ok (.istore_n 3, 1) := by decide +kernel
theorem dX4_net_20 : decode cX4_net 20 = .ok (.iload_n 3, 1) := by decide +kernel
theorem dX4_net_21 : decode cX4_net 21 = .ok (.aload_n 0, 1) := by decide +kernel
theorem dX4_net_22 : decode cX4_net 22 = .ok (.getfield 7, 3) := by decide +kernel
theorem dX4_net_25 : decode cX4_net 25 = .ok (.if_icmp .ge 22, 3) := by decide +kernel
theorem dX4_net_28 : decode cX4_net 28 = .ok (.iload_n 2, 1) := by decide +kernel
theorem dX4_net_29 : decode cX4_net 29 = .ok (.aload_n 0, 1) := by decide +kernel
theorem dX4_net_30 : decode cX4_net 30 = .ok (.getfield 17, 3) := by decide +kernel
theorem dX4_net_33 : decode cX4_net 33 = .ok (.iconst 5, 1) := by decide +kernel
theorem dX4_net_34 : decode cX4_net 34 = .ok (.iload_n 3, 1) := by decide +kernel
theorem dX4_net_35 : decode cX4_net 35 = .ok (.imul, 1) := by decide +kernel
theorem dX4_net_36 : decode cX4_net 36 = .ok (.iload_n 1, 1) := by decide +kernel
theorem dX4_net_37 : decode cX4_net 37 = .ok (.iadd, 1) := by decide +kernel
theorem dX4_net_38 : decode cX4_net 38 = .ok (.iaload, 1) := by decide +kernel
theorem dX4_net_39 : decode cX4_net 39 = .ok (.iadd, 1) := by decide +kernel
theorem dX4_net_40 : decode cX4_net 40 = .ok (.istore_n 2, 1) := by decide +kernel
theorem dX4_net_41 : decode cX4_net 41 = .ok (.iinc 3 1, 3) := by decide +kernel
theorem dX4_net_44 : decode cX4_net 44 = .ok (.goto (-24), 3) := by decide +kernel
theorem dX4_net_47 : decode cX4_net 47 = .ok (.iload_n 2, 1) := by decide +kernel
theorem dX4_net_48 : decode cX4_net 48 = .ok (.ireturn, 1) := by decide +kernel
theorem dX4_isRing_0 : decode cX4_isRing 0 = .ok (.iconst 1, 1) := by decide +kernel
theorem dX4_isRing_1 : decode cX4_isRing 1 = .ok (.istore_n 2, 1) := by decide +kernel
theorem dX4_isRing_2 : decode cX4_isRing 2 = .ok (.iconst 0, 1) := by decide +kernel
theorem dX4_isRing_3 : decode cX4_isRing 3 = .ok (.istore_n 3, 1) := by decide +kernel
theorem dX4_isRing_4 : decode cX4_isRing 4 = .ok (.iload_n 3, 1) := by decide +kernel
theorem dX4_isRing_5 : decode cX4_isRing 5 = .ok (.iload_n 1, 1) := by decide +kernel
theorem dX4_isRing_6 : decode cX4_isRing 6 = .ok (.if_icmp .ge 128, 3) := by decide +kernel
theorem dX4_isRing_9 : decode cX4_isRing 9 = .ok (.iload_n 2, 1) := by decide +kernel
theorem dX4_isRing_10 : decode cX4_isRing 10 = .ok (.ifCond .eq 124, 3) := by decide +kernel
theorem dX4_isRing_13 : decode cX4_isRing 13 = .ok (.aload_n 0, 1) := by decide +kernel
theorem dX4_isRing_14 : decode cX4_isRing 14 = .ok (.getfield 43, 3) := by decide +kernel
theorem dX4_isRing_17 : decode cX4_isRing 17 = .ok (.iload_n 3, 1) := by decide +kernel
theorem dX4_isRing_18 : decode cX4_isRing 18 = .ok (.iaload, 1) := by decide +kernel
theorem dX4_isRing_19 : decode cX4_isRing 19 = .ok (.aload_n 0, 1) := by decide +kernel
theorem dX4_isRing_20 : decode cX4_isRing 20 = .ok (.getfield 7, 3) := by decide +kernel
theorem dX4_isRing_23 : decode cX4_isRing 23 = .ok (.if_icmp .ge 62, 3) := by decide +kernel
theorem dX4_isRing_26 : decode cX4_isRing 26 = .ok (.iload_n 3, 1) := by decide +kernel
theorem dX4_isRing_27 : decode cX4_isRing 27 = .ok (.ifCond .eq 18, 3) := by decide +kernel
theorem dX4_isRing_30 : decode cX4_isRing 30 = .ok (.aload_n 0, 1) := by decide +kernel
theorem dX4_isRing_31 : decode cX4_isRing 31 = .ok (.getfield 43, 3) := by decide +kernel
theorem dX4_isRing_34 : decode cX4_isRing 34 = .ok (.iload_n 3, 1) := by decide +kernel
theorem dX4_isRing_35 : decode cX4_isRing 35 = .ok (.iaload, 1) := by decide +kernel
theorem dX4_isRing_36 : decode cX4_isRing 36 = .ok (.aload_n 0, 1) := by decide +kernel
theorem dX4_isRing_37 : decode cX4_isRing 37 = .ok (.getfield 43, 3) := by decide +kernel
theorem dX4_isRing_40 : decode cX4_isRing 40 = .ok (.iconst 0, 1) := by decide +kernel
theorem dX4_isRing_41 : decode cX4_isRing 41 = .ok (.iaload, 1) := by decide +kernel
theorem dX4_isRing_42 : decode cX4_isRing 42 = .ok (.if_icmp .le 43, 3) := by decide +kernel
theorem dX4_isRing_45 : decode cX4_isRing 45 = .ok (.aload_n 0, 1) := by decide +kernel
theorem dX4_isRing_46 : decode cX4_isRing 46 = .ok (.getfield 17, 3) := by decide +kernel
theorem dX4_isRing_49 : decode cX4_isRing 49 = .ok (.iconst 5, 1) := by decide +kernel
theorem dX4_isRing_50 : decode cX4_isRing 50 = .ok (.aload_n 0, 1) := by decide +kernel
theorem dX4_isRing_51 : decode cX4_isRing 51 = .ok (.getfield 43, 3) := by decide +kernel
theorem dX4_isRing_54 : decode cX4_isRing 54 = .ok (.iload_n 3, 1) := by decide +kernel
theorem dX4_isRing_55 : decode cX4_isRing 55 = .ok (.iaload, 1) := by decide +kernel
theorem dX4_isRing_56 : decode cX4_isRing 56 = .ok (.imul, 1) := by decide +kernel
theorem dX4_isRing_57 : decode cX4_isRing 57 = .ok (.aload_n 0, 1) := by decide +kernel
theorem dX4_isRing_58 : decode cX4_isRing 58 = .ok (.getfield 43, 3) := by decide +kernel
theorem dX4_isRing_61 : decode cX4_isRing 61 = .ok (.iload_n 3, 1) := by decide +kernel
theorem dX4_isRing_62 : decode cX4_isRing 62 = .ok (.iconst 1, 1) := by decide +kernel
theorem dX4_isRing_63 : decode cX4_isRing 63 = .ok (.iadd, 1) := by decide +kernel
theorem dX4_isRing_64 : decode cX4_isRing 64 = .ok (.iload_n 1, 1) := by decide +kernel
theorem dX4_isRing_65 : decode cX4_isRing 65 = .ok (.if_icmp .ne 7, 3) := by decide +kernel
theorem dX4_isRing_68 : decode cX4_isRing 68 = .ok (.iconst 0, 1) := by decide +kernel
theorem dX4_isRing_69 : decode cX4_isRing 69 = .ok (.goto 6, 3) := by decide +kernel
theorem dX4_isRing_72 : decode cX4_isRing 72 = .ok (.iload_n 3, 1) := by decide +kernel
theorem dX4_isRing_73 : decode cX4_isRing 73 = .ok (.iconst 1, 1) := by decide +kernel
theorem dX4_isRing_74 : decode cX4_isRing 74 = .ok (.iadd, 1) := by decide +kernel
theorem dX4_isRing_75 : decode cX4_isRing 75 = .ok (.iaload, 1) := by decide +kernel
theorem dX4_isRing_76 : decode cX4_isRing 76 = .ok (.iadd, 1) := by decide +kernel
theorem dX4_isRing_77 : decode cX4_isRing 77 = .ok (.iaload, 1) := by decide +kernel
theorem dX4_isRing_78 : decode cX4_isRing 78 = .ok (.ifCond .le 7, 3) := by decide +kernel
theorem dX4_isRing_81 : decode cX4_isRing 81 = .ok (.iconst 1, 1) := by decide +kernel
theorem dX4_isRing_82 : decode cX4_isRing 82 = .ok (.goto 4, 3) := by decide +kernel
theorem dX4_isRing_85 : decode cX4_isRing 85 = .ok (.iconst 0, 1) := by decide +kernel
theorem dX4_isRing_86 : decode cX4_isRing 86 = .ok (.istore_n 2, 1) := by decide +kernel
theorem dX4_isRing_87 : decode cX4_isRing 87 = .ok (.iconst 1, 1) := by decide +kernel
theorem dX4_isRing_88 : decode cX4_isRing 88 = .ok (.istore 4, 2) := by decide +kernel
theorem dX4_isRing_90 : decode cX4_isRing 90 = .ok (.iload 4, 2) := by decide +kernel
theorem dX4_isRing_92 : decode cX4_isRing 92 = .ok (.iload_n 3, 1) := by decide +kernel
theorem dX4_isRing_93 : decode cX4_isRing 93 = .ok (.if_icmp .ge 35, 3) := by decide +kernel
theorem dX4_isRing_96 : decode cX4_isRing 96 = .ok (.iload_n 2, 1) := by decide +kernel
theorem dX4_isRing_97 : decode cX4_isRing 97 = .ok (.ifCond .eq 23, 3) := by decide +kernel
theorem dX4_isRing_100 : decode cX4_isRing 100 = .ok (.aload_n 0, 1) := by decide +kernel
theorem dX4_isRing_101 : decode cX4_isRing 101 = .ok (.getfield 43, 3) := by decide +kernel
theorem dX4_isRing_104 : decode cX4_isRing 104 = .ok (.iload 4, 2) := by decide +kernel
theorem dX4_isRing_106 : decode cX4_isRing 106 = .ok (.iaload, 1) := by decide +kernel
theorem dX4_isRing_107 : decode cX4_isRing 107 = .ok (.aload_n 0, 1) := by decide +kernel
theorem dX4_isRing_108 : decode cX4_isRing 108 = .ok (.getfield 43, 3) := by decide +kernel
theorem dX4_isRing_111 : decode cX4_isRing 111 = .ok (.iload_n 3, 1) := by decide +kernel
theorem dX4_isRing_112 : decode cX4_isRing 112 = .ok (.iaload, 1) := by decide +kernel
theorem dX4_isRing_113 : decode cX4_isRing 113 = .ok (.if_icmp .eq 7, 3) := by decide +kernel
theorem dX4_isRing_116 : decode cX4_isRing 116 = .ok (.iconst 1, 1) := by decide +kernel
theorem dX4_isRing_117 : decode cX4_isRing 117 = .ok (.goto 4, 3) := by decide +kernel
theorem dX4_isRing_120 : decode cX4_isRing 120 = .ok (.iconst 0, 1) := by decide +kernel
theorem dX4_isRing_121 : decode cX4_isRing 121 = .ok (.istore_n 2, 1) := by decide +kernel
theorem dX4_isRing_122 : decode cX4_isRing 122 = .ok (.iinc 4 1, 3) := by decide +kernel
theorem dX4_isRing_125 : decode cX4_isRing 125 = .ok (.goto (-35), 3) := by decide +kernel
theorem dX4_isRing_128 : decode cX4_isRing 128 = .ok (.iinc 3 1, 3) := by decide +kernel
theorem dX4_isRing_131 : decode cX4_isRing 131 = .ok (.goto (-127), 3) := by decide +kernel
theorem dX4_isRing_134 : decode cX4_isRing 134 = .ok (.iload_n 2, 1) := by decide +kernel
theorem dX4_isRing_135 : decode cX4_isRing 135 = .ok (.ireturn, 1) := by decide +kernel
theorem dX4_seek_0 : decode cX4_seek 0 = .ok (.aload_n 0, 1) := by decide +kernel
theorem dX4_seek_1 : decode cX4_seek 1 = .ok (.iconst 0, 1) := by decide +kernel
theorem dX4_seek_2 : decode cX4_seek 2 = .ok (.putfield 108, 3) := by decide +kernel
theorem dX4_seek_5 : decode cX4_seek 5 = .ok (.aload_n 0, 1) := by decide +kernel
theorem dX4_seek_6 : decode cX4_seek 6 = .ok (.iconst 0, 1) := by decide +kernel
theorem dX4_seek_7 : decode cX4_seek 7 = .ok (.putfield 111, 3) := by decide +kernel
theorem dX4_seek_10 : decode cX4_seek 10 = .ok (.iconst 2, 1) := by decide +kernel
theorem dX4_seek_11 : decode cX4_seek 11 = .ok (.istore_n 2, 1) := by decide +kernel
theorem dX4_seek_12 : decode cX4_seek 12 = .ok (.iload_n 2, 1) := by decide +kernel
theorem dX4_seek_13 : decode cX4_seek 13 = .ok (.aload_n 0, 1) := by decide +kernel
theorem dX4_seek_14 : decode cX4_seek 14 = .ok (.getfield 7, 3) := by decide +kernel
theorem dX4_seek_17 : decode cX4_seek 17 = .ok (.if_icmp .gt 145, 3) := by decide +kernel
theorem dX4_seek_20 : decode cX4_seek 20 = .ok (.iload_n 2, 1) := by decide +kernel
theorem dX4_seek_21 : decode cX4_seek 21 = .ok (.iconst 2, 1) := by decide +kernel
theorem dX4_seek_22 : decode cX4_seek 22 = .ok (.if_icmp .ne 8, 3) := by decide +kernel
theorem dX4_seek_25 : decode cX4_seek 25 = .ok (.bipush 16, 2) := by decide +kernel
theorem dX4_seek_27 : decode cX4_seek 27 = .ok (.goto 16, 3) := by decide +kernel
theorem dX4_seek_30 : decode cX4_seek 30 = .ok (.iload_n 2, 1) := by decide +kernel
theorem dX4_seek_31 : decode cX4_seek 31 = .ok (.iconst 3, 1) := by decide +kernel
theorem dX4_seek_32 : decode cX4_seek 32 = .ok (.if_icmp .ne 8, 3) := by decide +kernel
theorem dX4_seek_35 : decode cX4_seek 35 = .ok (.bipush 64, 2) := by decide +kernel
theorem dX4_seek_37 : decode cX4_seek 37 = .ok (.goto 6, 3) := by decide +kernel
theorem dX4_seek_40 : decode cX4_seek 40 = .ok (.sipush 256, 3) := by decide +kernel
theorem dX4_seek_43 : decode cX4_seek 43 = .ok (.istore_n 3, 1) := by decide +kernel
theorem dX4_seek_44 : decode cX4_seek 44 = .ok (.iconst 0, 1) := by decide +kernel
theorem dX4_seek_45 : decode cX4_seek 45 = .ok (.istore 4, 2) := by decide +kernel
theorem dX4_seek_47 : decode cX4_seek 47 = .ok (.iload 4, 2) := by decide +kernel
theorem dX4_seek_49 : decode cX4_seek 49 = .ok (.iload_n 3, 1) := by decide +kernel
theorem dX4_seek_50 : decode cX4_seek 50 = .ok (.if_icmp .ge 106, 3) := by decide +kernel
theorem dX4_seek_53 : decode cX4_seek 53 = .ok (.iload 4, 2) := by decide +kernel
theorem dX4_seek_55 : decode cX4_seek 55 = .ok (.istore 5, 2) := by decide +kernel
theorem dX4_seek_57 : decode cX4_seek 57 = .ok (.iload_n 2, 1) := by decide +kernel
theorem dX4_seek_58 : decode cX4_seek 58 = .ok (.iconst 1, 1) := by decide +kernel
theorem dX4_seek_59 : decode cX4_seek 59 = .ok (.isub, 1) := by decide +kernel
theorem dX4_seek_60 : decode cX4_seek 60 = .ok (.istore 6, 2) := by decide +kernel
theorem dX4_seek_62 : decode cX4_seek 62 = .ok (.iload 6, 2) := by decide +kernel
theorem dX4_seek_64 : decode cX4_seek 64 = .ok (.ifCond .lt 26, 3) := by decide +kernel
theorem dX4_seek_67 : decode cX4_seek 67 = .ok (.aload_n 0, 1) := by decide +kernel
theorem dX4_seek_68 : decode cX4_seek 68 = .ok (.getfield 43, 3) := by decide +kernel
theorem dX4_seek_71 : decode cX4_seek 71 = .ok (.iload 6, 2) := by decide +kernel
theorem dX4_seek_73 : decode cX4_seek 73 = .ok (.iload 5, 2) := by decide +kernel
theorem dX4_seek_75 : decode cX4_seek 75 = .ok (.iconst 4, 1) := by decide +kernel
theorem dX4_seek_76 : decode cX4_seek 76 = .ok (.irem, 1) := by decide +kernel
theorem dX4_seek_77 : decode cX4_seek 77 = .ok (.iastore, 1) := by decide +kernel
theorem dX4_seek_78 : decode cX4_seek 78 = .ok (.iload 5, 2) := by decide +kernel
theorem dX4_seek_80 : decode cX4_seek 80 = .ok (.iconst 4, 1) := by decide +kernel
theorem dX4_seek_81 : decode cX4_seek 81 = .ok (.idiv, 1) := by decide +kernel
theorem dX4_seek_82 : decode cX4_seek 82 = .ok (.istore 5, 2) := by decide +kernel
theorem dX4_seek_84 : decode cX4_seek 84 = .ok (.iinc 6 (-1), 3) := by decide +kernel
theorem dX4_seek_87 : decode cX4_seek 87 = .ok (.goto (-25), 3) := by decide +kernel
theorem dX4_seek_90 : decode cX4_seek 90 = .ok (.aload_n 0, 1) := by decide +kernel
theorem dX4_seek_91 : decode cX4_seek 91 = .ok (.iload_n 2, 1) := by decide +kernel
theorem dX4_seek_92 : decode cX4_seek 92 = .ok (.invokevirtual 114, 3) := by decide +kernel
theorem dX4_seek_95 : decode cX4_seek 95 = .ok (.ifCond .eq 55, 3) := by decide +kernel
theorem dX4_seek_98 : decode cX4_seek 98 = .ok (.aload_n 0, 1) := by decide +kernel
theorem dX4_seek_99 : decode cX4_seek 99 = .ok (.getfield 108, 3) := by decide +kernel
theorem dX4_seek_102 : decode cX4_seek 102 = .ok (.iload_n 1, 1) := by decide +kernel
theorem dX4_seek_103 : decode cX4_seek 103 = .ok (.if_icmp .ne 37, 3) := by decide +kernel
theorem dX4_seek_106 : decode cX4_seek 106 = .ok (.aload_n 0, 1) := by decide +kernel
theorem dX4_seek_107 : decode cX4_seek 107 = .ok (.iload_n 2, 1) := by decide +kernel
theorem dX4_seek_108 : decode cX4_seek 108 = .ok (.putfield 111, 3) := by decide +kernel
theorem dX4_seek_111 : decode cX4_seek 111 = .ok (.iconst 0, 1) := by decide +kernel
theorem dX4_seek_112 : decode cX4_seek 112 = .ok (.istore 6, 2) := by decide +kernel
theorem dX4_seek_114 : decode cX4_seek 114 = .ok (.iload 6, 2) := by decide +kernel
theorem dX4_seek_116 : decode cX4_seek 116 = .ok (.iload_n 2, 1) := by decide +kernel
theorem dX4_seek_117 : decode cX4_seek 117 = .ok (.if_icmp .ge 23, 3) := by decide +kernel
theorem dX4_seek_120 : decode cX4_seek 120 = .ok (.aload_n 0, 1) := by decide +kernel
theorem dX4_seek_121 : decode cX4_seek 121 = .ok (.getfield 40, 3) := by decide +kernel
theorem dX4_seek_124 : decode cX4_seek 124 = .ok (.iload 6, 2) := by decide +kernel
theorem dX4_seek_126 : decode cX4_seek 126 = .ok (.aload_n 0, 1) := by decide +kernel
theorem dX4_seek_127 : decode cX4_seek 127 = .ok (.getfield 43, 3) := by decide +kernel
theorem dX4_seek_130 : decode cX4_seek 130 = .ok (.iload 6, 2) := by decide +kernel
theorem dX4_seek_132 : decode cX4_seek 132 = .ok (.iaload, 1) := by decide +kernel
theorem dX4_seek_133 : decode cX4_seek 133 = .ok (.iastore, 1) := by decide +kernel
theorem dX4_seek_134 : decode cX4_seek 134 = .ok (.iinc 6 1, 3) := by decide +kernel
theorem dX4_seek_137 : decode cX4_seek 137 = .ok (.goto (-23), 3) := by decide +kernel
theorem dX4_seek_140 : decode cX4_seek 140 = .ok (.aload_n 0, 1) := by decide +kernel
theorem dX4_seek_141 : decode cX4_seek 141 = .ok (.dup, 1) := by decide +kernel
theorem dX4_seek_142 : decode cX4_seek 142 = .ok (.getfield 108, 3) := by decide +kernel
theorem dX4_seek_145 : decode cX4_seek 145 = .ok (.iconst 1, 1) := by decide +kernel
theorem dX4_seek_146 : decode cX4_seek 146 = .ok (.iadd, 1) := by decide +kernel
theorem dX4_seek_147 : decode cX4_seek 147 = .ok (.putfield 108, 3) := by decide +kernel
theorem dX4_seek_150 : decode cX4_seek 150 = .ok (.iinc 4 1, 3) := by decide +kernel
theorem dX4_seek_153 : decode cX4_seek 153 = .ok (.goto (-106), 3) := by decide +kernel
theorem dX4_seek_156 : decode cX4_seek 156 = .ok (.iinc 2 1, 3) := by decide +kernel
theorem dX4_seek_159 : decode cX4_seek 159 = .ok (.goto (-147), 3) := by decide +kernel
theorem dX4_seek_162 : decode cX4_seek 162 = .ok (.return_, 1) := by decide +kernel
theorem dX4_rings_0 : decode cX4_rings 0 = .ok (.aload_n 0, 1) := by decide +kernel
theorem dX4_rings_1 : decode cX4_rings 1 = .ok (.iconst (-1), 1) := by decide +kernel
theorem dX4_rings_2 : decode cX4_rings 2 = .ok (.invokevirtual 117, 3) := by decide +kernel
theorem dX4_rings_5 : decode cX4_rings 5 = .ok (.aload_n 0, 1) := by decide +kernel
theorem dX4_rings_6 : decode cX4_rings 6 = .ok (.getfield 108, 3) := by decide +kernel
theorem dX4_rings_9 : decode cX4_rings 9 = .ok (.ireturn, 1) := by decide +kernel
theorem dX4_ring_0 : decode cX4_ring 0 = .ok (.iload_n 1, 1) := by decide +kernel
theorem dX4_ring_1 : decode cX4_ring 1 = .ok (.ifCond .ge 5, 3) := by decide +kernel
theorem dX4_ring_4 : decode cX4_ring 4 = .ok (.iconst (-1), 1) := by decide +kernel
theorem dX4_ring_5 : decode cX4_ring 5 = .ok (.ireturn, 1) := by decide +kernel
theorem dX4_ring_6 : decode cX4_ring 6 = .ok (.aload_n 0, 1) := by decide +kernel
theorem dX4_ring_7 : decode cX4_ring 7 = .ok (.iload_n 1, 1) := by decide +kernel
theorem dX4_ring_8 : decode cX4_ring 8 = .ok (.invokevirtual 117, 3) := by decide +kernel
theorem dX4_ring_11 : decode cX4_ring 11 = .ok (.iconst 0, 1) := by decide +kernel
theorem dX4_ring_12 : decode cX4_ring 12 = .ok (.istore_n 2, 1) := by decide +kernel
theorem dX4_ring_13 : decode cX4_ring 13 = .ok (.iconst 0, 1) := by decide +kernel
theorem dX4_ring_14 : decode cX4_ring 14 = .ok (.istore_n 3, 1) := by decide +kernel
theorem dX4_ring_15 : decode cX4_ring 15 = .ok (.iload_n 3, 1) := by decide +kernel
theorem dX4_ring_16 : decode cX4_ring 16 = .ok (.aload_n 0, 1) := by decide +kernel
theorem dX4_ring_17 : decode cX4_ring 17 = .ok (.getfield 111, 3) := by decide +kernel
theorem dX4_ring_20 : decode cX4_ring 20 = .ok (.if_icmp .ge 23, 3) := by decide +kernel
theorem dX4_ring_23 : decode cX4_ring 23 = .ok (.bipush 10, 2) := by decide +kernel
theorem dX4_ring_25 : decode cX4_ring 25 = .ok (.iload_n 2, 1) := by decide +kernel
theorem dX4_ring_26 : decode cX4_ring 26 = .ok (.imul, 1) := by decide +kernel
theorem dX4_ring_27 : decode cX4_ring 27 = .ok (.aload_n 0, 1) := by decide +kernel
theorem dX4_ring_28 : decode cX4_ring 28 = .ok (.getfield 40, 3) := by decide +kernel
theorem dX4_ring_31 : decode cX4_ring 31 = .ok (.iload_n 3, 1) := by decide +kernel
theorem dX4_ring_32 : decode cX4_ring 32 = .ok (.iaload, 1) := by decide +kernel
theorem dX4_ring_33 : decode cX4_ring 33 = .ok (.iadd, 1) := by decide +kernel
theorem dX4_ring_34 : decode cX4_ring 34 = .ok (.iconst 1, 1) := by decide +kernel
theorem dX4_ring_35 : decode cX4_ring 35 = .ok (.iadd, 1) := by decide +kernel
theorem dX4_ring_36 : decode cX4_ring 36 = .ok (.istore_n 2, 1) := by decide +kernel
theorem dX4_ring_37 : decode cX4_ring 37 = .ok (.iinc 3 1, 3) := by decide +kernel
theorem dX4_ring_40 : decode cX4_ring 40 = .ok (.goto (-25), 3) := by decide +kernel
theorem dX4_ring_43 : decode cX4_ring 43 = .ok (.aload_n 0, 1) := by decide +kernel
theorem dX4_ring_44 : decode cX4_ring 44 = .ok (.getfield 111, 3) := by decide +kernel
theorem dX4_ring_47 : decode cX4_ring 47 = .ok (.ifCond .ne 7, 3) := by decide +kernel
theorem dX4_ring_50 : decode cX4_ring 50 = .ok (.iconst (-1), 1) := by decide +kernel
theorem dX4_ring_51 : decode cX4_ring 51 = .ok (.goto 4, 3) := by decide +kernel
theorem dX4_ring_54 : decode cX4_ring 54 = .ok (.iload_n 2, 1) := by decide +kernel
theorem dX4_ring_55 : decode cX4_ring 55 = .ok (.ireturn, 1) := by decide +kernel
theorem dX4_debtOf_0 : decode cX4_debtOf 0 = .ok (.iconst 5, 1) := by decide +kernel
theorem dX4_debtOf_1 : decode cX4_debtOf 1 = .ok (.aload_n 0, 1) := by decide +kernel
theorem dX4_debtOf_2 : decode cX4_debtOf 2 = .ok (.getfield 40, 3) := by decide +kernel
theorem dX4_debtOf_5 : decode cX4_debtOf 5 = .ok (.iload_n 1, 1) := by decide +kernel
theorem dX4_debtOf_6 : decode cX4_debtOf 6 = .ok (.iaload, 1) := by decide +kernel
theorem dX4_debtOf_7 : decode cX4_debtOf 7 = .ok (.imul, 1) := by decide +kernel
theorem dX4_debtOf_8 : decode cX4_debtOf 8 = .ok (.aload_n 0, 1) := by decide +kernel
theorem dX4_debtOf_9 : decode cX4_debtOf 9 = .ok (.getfield 40, 3) := by decide +kernel
theorem dX4_debtOf_12 : decode cX4_debtOf 12 = .ok (.iload_n 1, 1) := by decide +kernel
theorem dX4_debtOf_13 : decode cX4_debtOf 13 = .ok (.iconst 1, 1) := by decide +kernel
theorem dX4_debtOf_14 : decode cX4_debtOf 14 = .ok (.iadd, 1) := by decide +kernel
theorem dX4_debtOf_15 : decode cX4_debtOf 15 = .ok (.aload_n 0, 1) := by decide +kernel
theorem dX4_debtOf_16 : decode cX4_debtOf 16 = .ok (.getfield 111, 3) := by decide +kernel
theorem dX4_debtOf_19 : decode cX4_debtOf 19 = .ok (.if_icmp .ne 7, 3) := by decide +kernel
theorem dX4_debtOf_22 : decode cX4_debtOf 22 = .ok (.iconst 0, 1) := by decide +kernel
theorem dX4_debtOf_23 : decode cX4_debtOf 23 = .ok (.goto 6, 3) := by decide +kernel
theorem dX4_debtOf_26 : decode cX4_debtOf 26 = .ok (.iload_n 1, 1) := by decide +kernel
theorem dX4_debtOf_27 : decode cX4_debtOf 27 = .ok (.iconst 1, 1) := by decide +kernel
theorem dX4_debtOf_28 : decode cX4_debtOf 28 = .ok (.iadd, 1) := by decide +kernel
theorem dX4_debtOf_29 : decode cX4_debtOf 29 = .ok (.iaload, 1) := by decide +kernel
theorem dX4_debtOf_30 : decode cX4_debtOf 30 = .ok (.iadd, 1) := by decide +kernel
theorem dX4_debtOf_31 : decode cX4_debtOf 31 = .ok (.ireturn, 1) := by decide +kernel
theorem dX4_cancelOne_0 : decode cX4_cancelOne 0 = .ok (.aload_n 0, 1) := by decide +kernel
theorem dX4_cancelOne_1 : decode cX4_cancelOne 1 = .ok (.iconst 0, 1) := by decide +kernel
theorem dX4_cancelOne_2 : decode cX4_cancelOne 2 = .ok (.invokevirtual 117, 3) := by decide +kernel
theorem dX4_cancelOne_5 : decode cX4_cancelOne 5 = .ok (.iconst 0, 1) := by decide +kernel
theorem dX4_cancelOne_6 : decode cX4_cancelOne 6 = .ok (.istore_n 1, 1) := by decide +kernel
theorem dX4_cancelOne_7 : decode cX4_cancelOne 7 = .ok (.iconst 0, 1) := by decide +kernel
theorem dX4_cancelOne_8 : decode cX4_cancelOne 8 = .ok (.istore_n 2, 1) := by decide +kernel
theorem dX4_cancelOne_9 : decode cX4_cancelOne 9 = .ok (.iload_n 2, 1) := by decide +kernel
theorem dX4_cancelOne_10 : decode cX4_cancelOne 10 = .ok (.aload_n 0, 1) := by decide +kernel
theorem dX4_cancelOne_11 : decode cX4_cancelOne 11 = .ok (.getfield 111, 3) := by decide +kernel
theorem dX4_cancelOne_14 : decode cX4_cancelOne 14 = .ok (.if_icmp .ge 35, 3) := by decide +kernel
theorem dX4_cancelOne_17 : decode cX4_cancelOne 17 = .ok (.aload_n 0, 1) := by decide +kernel
theorem dX4_cancelOne_18 : decode cX4_cancelOne 18 = .ok (.getfield 17, 3) := by decide +kernel
theorem dX4_cancelOne_21 : decode cX4_cancelOne 21 = .ok (.aload_n 0, 1) := by decide +kernel
theorem dX4_cancelOne_22 : decode cX4_cancelOne 22 = .ok (.iload_n 2, 1) := by decide +kernel
theorem dX4_cancelOne_23 : decode cX4_cancelOne 23 = .ok (.invokevirtual 121, 3) := by decide +kernel
theorem dX4_cancelOne_26 : decode cX4_cancelOne 26 = .ok (.iaload, 1) := by decide +kernel
theorem dX4_cancelOne_27 : decode cX4_cancelOne 27 = .ok (.istore_n 3, 1) := by decide +kernel
theorem dX4_cancelOne_28 : decode cX4_cancelOne 28 = .ok (.iload_n 2, 1) := by decide +kernel
theorem dX4_cancelOne_29 : decode cX4_cancelOne 29 = .ok (.ifCond .eq 8, 3) := by decide +kernel
theorem dX4_cancelOne_32 : decode cX4_cancelOne 32 = .ok (.iload_n 3, 1) := by decide +kernel
theorem dX4_cancelOne_33 : decode cX4_cancelOne 33 = .ok (.iload_n 1, 1) := by decide +kernel
theorem dX4_cancelOne_34 : decode cX4_cancelOne 34 = .ok (.if_icmp .ge 7, 3) := by decide +kernel
theorem dX4_cancelOne_37 : decode cX4_cancelOne 37 = .ok (.iload_n 3, 1) := by decide +kernel
theorem dX4_cancelOne_38 : decode cX4_cancelOne 38 = .ok (.goto 4, 3) := by decide +kernel
theorem dX4_cancelOne_41 : decode cX4_cancelOne 41 = .ok (.iload_n 1, 1) := by decide +kernel
theorem dX4_cancelOne_42 : decode cX4_cancelOne 42 = .ok (.istore_n 1, 1) := by decide +kernel
theorem dX4_cancelOne_43 : decode cX4_cancelOne 43 = .ok (.iinc 2 1, 3) := by decide +kernel
theorem dX4_cancelOne_46 : decode cX4_cancelOne 46 = .ok (.goto (-37), 3) := by decide +kernel
theorem dX4_cancelOne_49 : decode cX4_cancelOne 49 = .ok (.iconst 0, 1) := by decide +kernel
theorem dX4_cancelOne_50 : decode cX4_cancelOne 50 = .ok (.istore_n 2, 1) := by decide +kernel
theorem dX4_cancelOne_51 : decode cX4_cancelOne 51 = .ok (.iload_n 2, 1) := by decide +kernel
theorem dX4_cancelOne_52 : decode cX4_cancelOne 52 = .ok (.aload_n 0, 1) := by decide +kernel
theorem dX4_cancelOne_53 : decode cX4_cancelOne 53 = .ok (.getfield 111, 3) := by decide +kernel
theorem dX4_cancelOne_56 : decode cX4_cancelOne 56 = .ok (.if_icmp .ge 23, 3) := by decide +kernel
theorem dX4_cancelOne_59 : decode cX4_cancelOne 59 = .ok (.aload_n 0, 1) := by decide +kernel
theorem dX4_cancelOne_60 : decode cX4_cancelOne 60 = .ok (.getfield 17, 3) := by decide +kernel
theorem dX4_cancelOne_63 : decode cX4_cancelOne 63 = .ok (.aload_n 0, 1) := by decide +kernel
theorem dX4_cancelOne_64 : decode cX4_cancelOne 64 = .ok (.iload_n 2, 1) := by decide +kernel
theorem dX4_cancelOne_65 : decode cX4_cancelOne 65 = .ok (.invokevirtual 121, 3) := by decide +kernel
theorem dX4_cancelOne_68 : decode cX4_cancelOne 68 = .ok (.dup2, 1) := by decide +kernel
theorem dX4_cancelOne_69 : decode cX4_cancelOne 69 = .ok (.iaload, 1) := by decide +kernel
theorem dX4_cancelOne_70 : decode cX4_cancelOne 70 = .ok (.iload_n 1, 1) := by decide +kernel
theorem dX4_cancelOne_71 : decode cX4_cancelOne 71 = .ok (.isub, 1) := by decide +kernel
theorem dX4_cancelOne_72 : decode cX4_cancelOne 72 = .ok (.iastore, 1) := by decide +kernel
theorem dX4_cancelOne_73 : decode cX4_cancelOne 73 = .ok (.iinc 2 1, 3) := by decide +kernel
theorem dX4_cancelOne_76 : decode cX4_cancelOne 76 = .ok (.goto (-25), 3) := by decide +kernel
theorem dX4_cancelOne_79 : decode cX4_cancelOne 79 = .ok (.iload_n 1, 1) := by decide +kernel
theorem dX4_cancelOne_80 : decode cX4_cancelOne 80 = .ok (.ireturn, 1) := by decide +kernel
theorem dX4_cancel_0 : decode cX4_cancel 0 = .ok (.aload_n 0, 1) := by decide +kernel
theorem dX4_cancel_1 : decode cX4_cancel 1 = .ok (.invokevirtual 124, 3) := by decide +kernel
theorem dX4_cancel_4 : decode cX4_cancel 4 = .ok (.ireturn, 1) := by decide +kernel
theorem dX4_cancelAll_0 : decode cX4_cancelAll 0 = .ok (.iconst 0, 1) := by decide +kernel
theorem dX4_cancelAll_1 : decode cX4_cancelAll 1 = .ok (.istore_n 1, 1) := by decide +kernel
theorem dX4_cancelAll_2 : decode cX4_cancelAll 2 = .ok (.aload_n 0, 1) := by decide +kernel
theorem dX4_cancelAll_3 : decode cX4_cancelAll 3 = .ok (.invokevirtual 124, 3) := by decide +kernel
theorem dX4_cancelAll_6 : decode cX4_cancelAll 6 = .ok (.istore_n 2, 1) := by decide +kernel
theorem dX4_cancelAll_7 : decode cX4_cancelAll 7 = .ok (.iload_n 2, 1) := by decide +kernel
theorem dX4_cancelAll_8 : decode cX4_cancelAll 8 = .ok (.ifCond .le 20, 3) := by decide +kernel
theorem dX4_cancelAll_11 : decode cX4_cancelAll 11 = .ok (.iload_n 1, 1) := by decide +kernel
theorem dX4_cancelAll_12 : decode cX4_cancelAll 12 = .ok (.iload_n 2, 1) := by decide +kernel
theorem dX4_cancelAll_13 : decode cX4_cancelAll 13 = .ok (.aload_n 0, 1) := by decide +kernel
theorem dX4_cancelAll_14 : decode cX4_cancelAll 14 = .ok (.getfield 111, 3) := by decide +kernel
theorem dX4_cancelAll_17 : decode cX4_cancelAll 17 = .ok (.imul, 1) := by decide +kernel
theorem dX4_cancelAll_18 : decode cX4_cancelAll 18 = .ok (.iadd, 1) := by decide +kernel
theorem dX4_cancelAll_19 : decode cX4_cancelAll 19 = .ok (.istore_n 1, 1) := by decide +kernel
theorem dX4_cancelAll_20 : decode cX4_cancelAll 20 = .ok (.aload_n 0, 1) := by decide +kernel
theorem dX4_cancelAll_21 : decode cX4_cancelAll 21 = .ok (.invokevirtual 124, 3) := by decide +kernel
theorem dX4_cancelAll_24 : decode cX4_cancelAll 24 = .ok (.istore_n 2, 1) := by decide +kernel
theorem dX4_cancelAll_25 : decode cX4_cancelAll 25 = .ok (.goto (-18), 3) := by decide +kernel
theorem dX4_cancelAll_28 : decode cX4_cancelAll 28 = .ok (.iload_n 1, 1) := by decide +kernel
theorem dX4_cancelAll_29 : decode cX4_cancelAll 29 = .ok (.ireturn, 1) := by decide +kernel
theorem dX4_payOne_0 : decode cX4_payOne 0 = .ok (.aload_n 0, 1) := by decide +kernel
theorem dX4_payOne_1 : decode cX4_payOne 1 = .ok (.getfield 17, 3) := by decide +kernel
theorem dX4_payOne_4 : decode cX4_payOne 4 = .ok (.iconst 5, 1) := by decide +kernel
theorem dX4_payOne_5 : decode cX4_payOne 5 = .ok (.iload_n 1, 1) := by decide +kernel
theorem dX4_payOne_6 : decode cX4_payOne 6 = .ok (.imul, 1) := by decide +kernel
theorem dX4_payOne_7 : decode cX4_payOne 7 = .ok (.iload_n 2, 1) := by decide +kernel
theorem dX4_payOne_8 : decode cX4_payOne 8 = .ok (.iadd, 1) := by decide +kernel
theorem dX4_payOne_9 : decode cX4_payOne 9 = .ok (.iaload, 1) := by decide +kernel
theorem dX4_payOne_10 : decode cX4_payOne 10 = .ok (.istore_n 3, 1) := by decide +kernel
theorem dX4_payOne_11 : decode cX4_payOne 11 = .ok (.iload_n 3, 1) := by decide +kernel
theorem dX4_payOne_12 : decode cX4_payOne 12 = .ok (.ifCond .eq 15, 3) := by decide +kernel
theorem dX4_payOne_15 : decode cX4_payOne 15 = .ok (.aload_n 0, 1) := by decide +kernel
theorem dX4_payOne_16 : decode cX4_payOne 16 = .ok (.getfield 13, 3) := by decide +kernel
theorem dX4_payOne_19 : decode cX4_payOne 19 = .ok (.iload_n 1, 1) := by decide +kernel
theorem dX4_payOne_20 : decode cX4_payOne 20 = .ok (.laload, 1) := by decide +kernel
theorem dX4_payOne_21 : decode cX4_payOne 21 = .ok (.iload_n 3, 1) := by decide +kernel
theorem dX4_payOne_22 : decode cX4_payOne 22 = .ok (.i2l, 1) := by decide +kernel
theorem dX4_payOne_23 : decode cX4_payOne 23 = .ok (.lcmp, 1) := by decide +kernel
theorem dX4_payOne_24 : decode cX4_payOne 24 = .ok (.ifCond .ge 5, 3) := by decide +kernel
theorem dX4_payOne_27 : decode cX4_payOne 27 = .ok (.iconst 0, 1) := by decide +kernel
theorem dX4_payOne_28 : decode cX4_payOne 28 = .ok (.ireturn, 1) := by decide +kernel
theorem dX4_payOne_29 : decode cX4_payOne 29 = .ok (.aload_n 0, 1) := by decide +kernel
theorem dX4_payOne_30 : decode cX4_payOne 30 = .ok (.getfield 17, 3) := by decide +kernel
theorem dX4_payOne_33 : decode cX4_payOne 33 = .ok (.iconst 5, 1) := by decide +kernel
theorem dX4_payOne_34 : decode cX4_payOne 34 = .ok (.iload_n 1, 1) := by decide +kernel
theorem dX4_payOne_35 : decode cX4_payOne 35 = .ok (.imul, 1) := by decide +kernel
theorem dX4_payOne_36 : decode cX4_payOne 36 = .ok (.iload_n 2, 1) := by decide +kernel
theorem dX4_payOne_37 : decode cX4_payOne 37 = .ok (.iadd, 1) := by decide +kernel
theorem dX4_payOne_38 : decode cX4_payOne 38 = .ok (.iconst 0, 1) := by decide +kernel
theorem dX4_payOne_39 : decode cX4_payOne 39 = .ok (.iastore, 1) := by decide +kernel
theorem dX4_payOne_40 : decode cX4_payOne 40 = .ok (.aload_n 0, 1) := by decide +kernel
theorem dX4_payOne_41 : decode cX4_payOne 41 = .ok (.getfield 13, 3) := by decide +kernel
theorem dX4_payOne_44 : decode cX4_payOne 44 = .ok (.iload_n 1, 1) := by decide +kernel
theorem dX4_payOne_45 : decode cX4_payOne 45 = .ok (.dup2, 1) := by decide +kernel
theorem dX4_payOne_46 : decode cX4_payOne 46 = .ok (.laload, 1) := by decide +kernel
theorem dX4_payOne_47 : decode cX4_payOne 47 = .ok (.iload_n 3, 1) := by decide +kernel
theorem dX4_payOne_48 : decode cX4_payOne 48 = .ok (.i2l, 1) := by decide +kernel
theorem dX4_payOne_49 : decode cX4_payOne 49 = .ok (.lsub, 1) := by decide +kernel
theorem dX4_payOne_50 : decode cX4_payOne 50 = .ok (.lastore, 1) := by decide +kernel
theorem dX4_payOne_51 : decode cX4_payOne 51 = .ok (.iload_n 2, 1) := by decide +kernel
theorem dX4_payOne_52 : decode cX4_payOne 52 = .ok (.aload_n 0, 1) := by decide +kernel
theorem dX4_payOne_53 : decode cX4_payOne 53 = .ok (.getfield 7, 3) := by decide +kernel
theorem dX4_payOne_56 : decode cX4_payOne 56 = .ok (.if_icmp .ne 17, 3) := by decide +kernel
theorem dX4_payOne_59 : decode cX4_payOne 59 = .ok (.aload_n 0, 1) := by decide +kernel
theorem dX4_payOne_60 : decode cX4_payOne 60 = .ok (.dup, 1) := by decide +kernel
theorem dX4_payOne_61 : decode cX4_payOne 61 = .ok (.getfield 53, 3) := by decide +kernel
theorem dX4_payOne_64 : decode cX4_payOne 64 = .ok (.iload_n 3, 1) := by decide +kernel
theorem dX4_payOne_65 : decode cX4_payOne 65 = .ok (.i2l, 1) := by decide +kernel
theorem dX4_payOne_66 : decode cX4_payOne 66 = .ok (.ladd, 1) := by decide +kernel
theorem dX4_payOne_67 : decode cX4_payOne 67 = .ok (.putfield 53, 3) := by decide +kernel
theorem dX4_payOne_70 : decode cX4_payOne 70 = .ok (.goto 14, 3) := by decide +kernel
theorem dX4_payOne_73 : decode cX4_payOne 73 = .ok (.aload_n 0, 1) := by decide +kernel
theorem dX4_payOne_74 : decode cX4_payOne 74 = .ok (.getfield 13, 3) := by decide +kernel
theorem dX4_payOne_77 : decode cX4_payOne 77 = .ok (.iload_n 2, 1) := by decide +kernel
theorem dX4_payOne_78 : decode cX4_payOne 78 = .ok (.dup2, 1) := by decide +kernel
theorem dX4_payOne_79 : decode cX4_payOne 79 = .ok (.laload, 1) := by decide +kernel
theorem dX4_payOne_80 : decode cX4_payOne 80 = .ok (.iload_n 3, 1) := by decide +kernel
theorem dX4_payOne_81 : decode cX4_payOne 81 = .ok (.i2l, 1) := by decide +kernel
theorem dX4_payOne_82 : decode cX4_payOne 82 = .ok (.ladd, 1) := by decide +kernel
theorem dX4_payOne_83 : decode cX4_payOne 83 = .ok (.lastore, 1) := by decide +kernel
theorem dX4_payOne_84 : decode cX4_payOne 84 = .ok (.iconst 1, 1) := by decide +kernel
theorem dX4_payOne_85 : decode cX4_payOne 85 = .ok (.ireturn, 1) := by decide +kernel
theorem dX4_passDay_0 : decode cX4_passDay 0 = .ok (.iconst 0, 1) := by decide +kernel
theorem dX4_passDay_1 : decode cX4_passDay 1 = .ok (.istore_n 1, 1) := by decide +kernel
theorem dX4_passDay_2 : decode cX4_passDay 2 = .ok (.iconst 0, 1) := by decide +kernel
theorem dX4_passDay_3 : decode cX4_passDay 3 = .ok (.istore_n 2, 1) := by decide +kernel
theorem dX4_passDay_4 : decode cX4_passDay 4 = .ok (.iload_n 2, 1) := by decide +kernel
theorem dX4_passDay_5 : decode cX4_passDay 5 = .ok (.aload_n 0, 1) := by decide +kernel
theorem dX4_passDay_6 : decode cX4_passDay 6 = .ok (.getfield 7, 3) := by decide +kernel
theorem dX4_passDay_9 : decode cX4_passDay 9 = .ok (.if_icmp .ge 46, 3) := by decide +kernel
theorem dX4_passDay_12 : decode cX4_passDay 12 = .ok (.iload_n 1, 1) := by decide +kernel
theorem dX4_passDay_13 : decode cX4_passDay 13 = .ok (.aload_n 0, 1) := by decide +kernel
theorem dX4_passDay_14 : decode cX4_passDay 14 = .ok (.iload_n 2, 1) := by decide +kernel
theorem dX4_passDay_15 : decode cX4_passDay 15 = .ok (.aload_n 0, 1) := by decide +kernel
theorem dX4_passDay_16 : decode cX4_passDay 16 = .ok (.getfield 7, 3) := by decide +kernel
theorem dX4_passDay_19 : decode cX4_passDay 19 = .ok (.invokevirtual 128, 3) := by decide +kernel
theorem dX4_passDay_22 : decode cX4_passDay 22 = .ok (.iadd, 1) := by decide +kernel
theorem dX4_passDay_23 : decode cX4_passDay 23 = .ok (.istore_n 1, 1) := by decide +kernel
theorem dX4_passDay_24 : decode cX4_passDay 24 = .ok (.iconst 0, 1) := by decide +kernel
theorem dX4_passDay_25 : decode cX4_passDay 25 = .ok (.istore_n 3, 1) := by decide +kernel
theorem dX4_passDay_26 : decode cX4_passDay 26 = .ok (.iload_n 3, 1) := by decide +kernel
theorem dX4_passDay_27 : decode cX4_passDay 27 = .ok (.aload_n 0, 1) := by decide +kernel
theorem dX4_passDay_28 : decode cX4_passDay 28 = .ok (.getfield 7, 3) := by decide +kernel
theorem dX4_passDay_31 : decode cX4_passDay 31 = .ok (.if_icmp .ge 18, 3) := by decide +kernel
theorem dX4_passDay_34 : decode cX4_passDay 34 = .ok (.iload_n 1, 1) := by decide +kernel
theorem dX4_passDay_35 : decode cX4_passDay 35 = .ok (.aload_n 0, 1) := by decide +kernel
theorem dX4_passDay_36 : decode cX4_passDay 36 = .ok (.iload_n 2, 1) := by decide +kernel
theorem dX4_passDay_37 : decode cX4_passDay 37 = .ok (.iload_n 3, 1) := by decide +kernel
theorem dX4_passDay_38 : decode cX4_passDay 38 = .ok (.invokevirtual 128, 3) := by decide +kernel
theorem dX4_passDay_41 : decode cX4_passDay 41 = .ok (.iadd, 1) := by decide +kernel
theorem dX4_passDay_42 : decode cX4_passDay 42 = .ok (.istore_n 1, 1) := by decide +kernel
theorem dX4_passDay_43 : decode cX4_passDay 43 = .ok (.iinc 3 1, 3) := by decide +kernel
theorem dX4_passDay_46 : decode cX4_passDay 46 = .ok (.goto (-20), 3) := by decide +kernel
theorem dX4_passDay_49 : decode cX4_passDay 49 = .ok (.iinc 2 1, 3) := by decide +kernel
theorem dX4_passDay_52 : decode cX4_passDay 52 = .ok (.goto (-48), 3) := by decide +kernel
theorem dX4_passDay_55 : decode cX4_passDay 55 = .ok (.iload_n 1, 1) := by decide +kernel
theorem dX4_passDay_56 : decode cX4_passDay 56 = .ok (.ireturn, 1) := by decide +kernel
theorem dX4_day_0 : decode cX4_day 0 = .ok (.aload_n 0, 1) := by decide +kernel
theorem dX4_day_1 : decode cX4_day 1 = .ok (.invokevirtual 132, 3) := by decide +kernel
theorem dX4_day_4 : decode cX4_day 4 = .ok (.ireturn, 1) := by decide +kernel
theorem dX4_days_0 : decode cX4_days 0 = .ok (.iconst 0, 1) := by decide +kernel
theorem dX4_days_1 : decode cX4_days 1 = .ok (.istore_n 1, 1) := by decide +kernel
theorem dX4_days_2 : decode cX4_days 2 = .ok (.aload_n 0, 1) := by decide +kernel
theorem dX4_days_3 : decode cX4_days 3 = .ok (.invokevirtual 132, 3) := by decide +kernel
theorem dX4_days_6 : decode cX4_days 6 = .ok (.ifCond .le 9, 3) := by decide +kernel
theorem dX4_days_9 : decode cX4_days 9 = .ok (.iinc 1 1, 3) := by decide +kernel
theorem dX4_days_12 : decode cX4_days 12 = .ok (.goto (-10), 3) := by decide +kernel
theorem dX4_days_15 : decode cX4_days 15 = .ok (.iload_n 1, 1) := by decide +kernel
theorem dX4_days_16 : decode cX4_days 16 = .ok (.ireturn, 1) := by decide +kernel
theorem dX4_count_0 : decode cX4_count 0 = .ok (.lconst 0, 1) := by decide +kernel
theorem dX4_count_1 : decode cX4_count 1 = .ok (.lstore_n 2, 1) := by decide +kernel
theorem dX4_count_2 : decode cX4_count 2 = .ok (.iconst 0, 1) := by decide +kernel
theorem dX4_count_3 : decode cX4_count 3 = .ok (.istore 4, 2) := by decide +kernel
theorem dX4_count_5 : decode cX4_count 5 = .ok (.iload 4, 2) := by decide +kernel
theorem dX4_count_7 : decode cX4_count 7 = .ok (.aload_n 0, 1) := by decide +kernel
theorem dX4_count_8 : decode cX4_count 8 = .ok (.getfield 7, 3) := by decide +kernel
theorem dX4_count_11 : decode cX4_count 11 = .ok (.if_icmp .ge 84, 3) := by decide +kernel
theorem dX4_count_14 : decode cX4_count 14 = .ok (.lload_n 2, 1) := by decide +kernel
theorem dX4_count_15 : decode cX4_count 15 = .ok (.iload_n 1, 1) := by decide +kernel
theorem dX4_count_16 : decode cX4_count 16 = .ok (.iconst 2, 1) := by decide +kernel
theorem dX4_count_17 : decode cX4_count 17 = .ok (.if_icmp .ne 13, 3) := by decide +kernel
theorem dX4_count_20 : decode cX4_count 20 = .ok (.aload_n 0, 1) := by decide +kernel
theorem dX4_count_21 : decode cX4_count 21 = .ok (.getfield 13, 3) := by decide +kernel
theorem dX4_count_24 : decode cX4_count 24 = .ok (.iload 4, 2) := by decide +kernel
theorem dX4_count_26 : decode cX4_count 26 = .ok (.laload, 1) := by decide +kernel
theorem dX4_count_27 : decode cX4_count 27 = .ok (.goto 60, 3) := by decide +kernel
theorem dX4_count_30 : decode cX4_count 30 = .ok (.iload_n 1, 1) := by decide +kernel
theorem dX4_count_31 : decode cX4_count 31 = .ok (.iconst 3, 1) := by decide +kernel
theorem dX4_count_32 : decode cX4_count 32 = .ok (.if_icmp .ne 13, 3) := by decide +kernel
theorem dX4_count_35 : decode cX4_count 35 = .ok (.aload_n 0, 1) := by decide +kernel
theorem dX4_count_36 : decode cX4_count 36 = .ok (.iload 4, 2) := by decide +kernel
theorem dX4_count_38 : decode cX4_count 38 = .ok (.invokevirtual 61, 3) := by decide +kernel
theorem dX4_count_41 : decode cX4_count 41 = .ok (.i2l, 1) := by decide +kernel
theorem dX4_count_42 : decode cX4_count 42 = .ok (.goto 45, 3) := by decide +kernel
theorem dX4_count_45 : decode cX4_count 45 = .ok (.iload_n 1, 1) := by decide +kernel
theorem dX4_count_46 : decode cX4_count 46 = .ok (.iconst 4, 1) := by decide +kernel
theorem dX4_count_47 : decode cX4_count 47 = .ok (.if_icmp .ne 21, 3) := by decide +kernel
theorem dX4_count_50 : decode cX4_count 50 = .ok (.aload_n 0, 1) := by decide +kernel
theorem dX4_count_51 : decode cX4_count 51 = .ok (.getfield 17, 3) := by decide +kernel
theorem dX4_count_54 : decode cX4_count 54 = .ok (.iconst 5, 1) := by decide +kernel
theorem dX4_count_55 : decode cX4_count 55 = .ok (.iload 4, 2) := by decide +kernel
theorem dX4_count_57 : decode cX4_count 57 = .ok (.imul, 1) := by decide +kernel
theorem dX4_count_58 : decode cX4_count 58 = .ok (.aload_n 0, 1) := by decide +kernel
theorem dX4_count_59 : decode cX4_count 59 = .ok (.getfield 7, 3) := by decide +kernel
theorem dX4_count_62 : decode cX4_count 62 = .ok (.iadd, 1) := by decide +kernel
theorem dX4_count_63 : decode cX4_count 63 = .ok (.iaload, 1) := by decide +kernel
theorem dX4_count_64 : decode cX4_count 64 = .ok (.i2l, 1) := by decide +kernel
theorem dX4_count_65 : decode cX4_count 65 = .ok (.goto 22, 3) := by decide +kernel
theorem dX4_count_68 : decode cX4_count 68 = .ok (.iload_n 1, 1) := by decide +kernel
theorem dX4_count_69 : decode cX4_count 69 = .ok (.iconst 5, 1) := by decide +kernel
theorem dX4_count_70 : decode cX4_count 70 = .ok (.if_icmp .ne 16, 3) := by decide +kernel
theorem dX4_count_73 : decode cX4_count 73 = .ok (.aload_n 0, 1) := by decide +kernel
theorem dX4_count_74 : decode cX4_count 74 = .ok (.iload 4, 2) := by decide +kernel
theorem dX4_count_76 : decode cX4_count 76 = .ok (.invokevirtual 61, 3) := by decide +kernel
theorem dX4_count_79 : decode cX4_count 79 = .ok (.ifCond .le 7, 3) := by decide +kernel
theorem dX4_count_82 : decode cX4_count 82 = .ok (.lconst 1, 1) := by decide +kernel
theorem dX4_count_83 : decode cX4_count 83 = .ok (.goto 4, 3) := by decide +kernel
theorem dX4_count_86 : decode cX4_count 86 = .ok (.lconst 0, 1) := by decide +kernel
theorem dX4_count_87 : decode cX4_count 87 = .ok (.ladd, 1) := by decide +kernel
theorem dX4_count_88 : decode cX4_count 88 = .ok (.lstore_n 2, 1) := by decide +kernel
theorem dX4_count_89 : decode cX4_count 89 = .ok (.iinc 4 1, 3) := by decide +kernel
theorem dX4_count_92 : decode cX4_count 92 = .ok (.goto (-87), 3) := by decide +kernel
theorem dX4_count_95 : decode cX4_count 95 = .ok (.iload_n 1, 1) := by decide +kernel
theorem dX4_count_96 : decode cX4_count 96 = .ok (.lookupswitch 52 #[(0, 36), (1, 41), (6, 46)], 36) := by decide +kernel
theorem dX4_count_132 : decode cX4_count 132 = .ok (.aload_n 0, 1) := by decide +kernel
theorem dX4_count_133 : decode cX4_count 133 = .ok (.getfield 7, 3) := by decide +kernel
theorem dX4_count_136 : decode cX4_count 136 = .ok (.ireturn, 1) := by decide +kernel
theorem dX4_count_137 : decode cX4_count 137 = .ok (.aload_n 0, 1) := by decide +kernel
theorem dX4_count_138 : decode cX4_count 138 = .ok (.getfield 50, 3) := by decide +kernel
theorem dX4_count_141 : decode cX4_count 141 = .ok (.ireturn, 1) := by decide +kernel
theorem dX4_count_142 : decode cX4_count 142 = .ok (.aload_n 0, 1) := by decide +kernel
theorem dX4_count_143 : decode cX4_count 143 = .ok (.getfield 53, 3) := by decide +kernel
theorem dX4_count_146 : decode cX4_count 146 = .ok (.l2i, 1) := by decide +kernel
theorem dX4_count_147 : decode cX4_count 147 = .ok (.ireturn, 1) := by decide +kernel
theorem dX4_count_148 : decode cX4_count 148 = .ok (.iload_n 1, 1) := by decide +kernel
theorem dX4_count_149 : decode cX4_count 149 = .ok (.iconst 2, 1) := by decide +kernel
theorem dX4_count_150 : decode cX4_count 150 = .ok (.iconst 5, 1) := by decide +kernel
theorem dX4_count_151 : decode cX4_count 151 = .ok (.invokestatic 46, 3) := by decide +kernel
theorem dX4_count_154 : decode cX4_count 154 = .ok (.ifCond .eq 8, 3) := by decide +kernel
theorem dX4_count_157 : decode cX4_count 157 = .ok (.lload_n 2, 1) := by decide +kernel
theorem dX4_count_158 : decode cX4_count 158 = .ok (.l2i, 1) := by decide +kernel
theorem dX4_count_159 : decode cX4_count 159 = .ok (.goto 5, 3) := by decide +kernel
theorem dX4_count_162 : decode cX4_count 162 = .ok (.bipush (-102), 2) := by decide +kernel
theorem dX4_count_164 : decode cX4_count 164 = .ok (.ireturn, 1) := by decide +kernel
theorem dX4_mix_0 : decode cX4_mix 0 = .ok (.aload_n 0, 1) := by decide +kernel
theorem dX4_mix_1 : decode cX4_mix 1 = .ok (.ldc2_w 135, 3) := by decide +kernel
theorem dX4_mix_4 : decode cX4_mix 4 = .ok (.aload_n 0, 1) := by decide +kernel
theorem dX4_mix_5 : decode cX4_mix 5 = .ok (.getfield 137, 3) := by decide +kernel
theorem dX4_mix_8 : decode cX4_mix 8 = .ok (.lmul, 1) := by decide +kernel
theorem dX4_mix_9 : decode cX4_mix 9 = .ok (.lload_n 1, 1) := by decide +kernel
theorem dX4_mix_10 : decode cX4_mix 10 = .ok (.ladd, 1) := by decide +kernel
theorem dX4_mix_11 : decode cX4_mix 11 = .ok (.putfield 137, 3) := by decide +kernel
theorem dX4_mix_14 : decode cX4_mix 14 = .ok (.return_, 1) := by decide +kernel
theorem dX4_digest_0 : decode cX4_digest 0 = .ok (.aload_n 0, 1) := by decide +kernel
theorem dX4_digest_1 : decode cX4_digest 1 = .ok (.ldc2_w 140, 3) := by decide +kernel
theorem dX4_digest_4 : decode cX4_digest 4 = .ok (.putfield 137, 3) := by decide +kernel
theorem dX4_digest_7 : decode cX4_digest 7 = .ok (.aload_n 0, 1) := by decide +kernel
theorem dX4_digest_8 : decode cX4_digest 8 = .ok (.aload_n 0, 1) := by decide +kernel
theorem dX4_digest_9 : decode cX4_digest 9 = .ok (.getfield 7, 3) := by decide +kernel
theorem dX4_digest_12 : decode cX4_digest 12 = .ok (.i2l, 1) := by decide +kernel
theorem dX4_digest_13 : decode cX4_digest 13 = .ok (.invokevirtual 142, 3) := by decide +kernel
theorem dX4_digest_16 : decode cX4_digest 16 = .ok (.aload_n 0, 1) := by decide +kernel
theorem dX4_digest_17 : decode cX4_digest 17 = .ok (.aload_n 0, 1) := by decide +kernel
theorem dX4_digest_18 : decode cX4_digest 18 = .ok (.getfield 50, 3) := by decide +kernel
theorem dX4_digest_21 : decode cX4_digest 21 = .ok (.i2l, 1) := by decide +kernel
theorem dX4_digest_22 : decode cX4_digest 22 = .ok (.invokevirtual 142, 3) := by decide +kernel
theorem dX4_digest_25 : decode cX4_digest 25 = .ok (.iconst 0, 1) := by decide +kernel
theorem dX4_digest_26 : decode cX4_digest 26 = .ok (.istore_n 1, 1) := by decide +kernel
theorem dX4_digest_27 : decode cX4_digest 27 = .ok (.iload_n 1, 1) := by decide +kernel
theorem dX4_digest_28 : decode cX4_digest 28 = .ok (.aload_n 0, 1) := by decide +kernel
theorem dX4_digest_29 : decode cX4_digest 29 = .ok (.getfield 7, 3) := by decide +kernel
theorem dX4_digest_32 : decode cX4_digest 32 = .ok (.if_icmp .ge 50, 3) := by decide +kernel
theorem dX4_digest_35 : decode cX4_digest 35 = .ok (.aload_n 0, 1) := by decide +kernel
theorem dX4_digest_36 : decode cX4_digest 36 = .ok (.aload_n 0, 1) := by decide +kernel
theorem dX4_digest_37 : decode cX4_digest 37 = .ok (.getfield 13, 3) := by decide +kernel
theorem dX4_digest_40 : decode cX4_digest 40 = .ok (.iload_n 1, 1) := by decide +kernel
theorem dX4_digest_41 : decode cX4_digest 41 = .ok (.laload, 1) := by decide +kernel
theorem dX4_digest_42 : decode cX4_digest 42 = .ok (.invokevirtual 142, 3) := by decide +kernel
theorem dX4_digest_45 : decode cX4_digest 45 = .ok (.iconst 0, 1) := by decide +kernel
theorem dX4_digest_46 : decode cX4_digest 46 = .ok (.istore_n 2, 1) := by decide +kernel
theorem dX4_digest_47 : decode cX4_digest 47 = .ok (.iload_n 2, 1) := by decide +kernel
theorem dX4_digest_48 : decode cX4_digest 48 = .ok (.aload_n 0, 1) := by decide +kernel
theorem dX4_digest_49 : decode cX4_digest 49 = .ok (.getfield 7, 3) := by decide +kernel
theorem dX4_digest_52 : decode cX4_digest 52 = .ok (.if_icmp .gt 24, 3) := by decide +kernel
theorem dX4_digest_55 : decode cX4_digest 55 = .ok (.aload_n 0, 1) := by decide +kernel
theorem dX4_digest_56 : decode cX4_digest 56 = .ok (.aload_n 0, 1) := by decide +kernel
theorem dX4_digest_57 : decode cX4_digest 57 = .ok (.getfield 17, 3) := by decide +kernel
theorem dX4_digest_60 : decode cX4_digest 60 = .ok (.iconst 5, 1) := by decide +kernel
theorem dX4_digest_61 : decode cX4_digest 61 = .ok (.iload_n 1, 1) := by decide +kernel
theorem dX4_digest_62 : decode cX4_digest 62 = .ok (.imul, 1) := by decide +kernel
theorem dX4_digest_63 : decode cX4_digest 63 = .ok (.iload_n 2, 1) := by decide +kernel
theorem dX4_digest_64 : decode cX4_digest 64 = .ok (.iadd, 1) := by decide +kernel
theorem dX4_digest_65 : decode cX4_digest 65 = .ok (.iaload, 1) := by decide +kernel
theorem dX4_digest_66 : decode cX4_digest 66 = .ok (.i2l, 1) := by decide +kernel
theorem dX4_digest_67 : decode cX4_digest 67 = .ok (.invokevirtual 142, 3) := by decide +kernel
theorem dX4_digest_70 : decode cX4_digest 70 = .ok (.iinc 2 1, 3) := by decide +kernel
theorem dX4_digest_73 : decode cX4_digest 73 = .ok (.goto (-26), 3) := by decide +kernel
theorem dX4_digest_76 : decode cX4_digest 76 = .ok (.iinc 1 1, 3) := by decide +kernel
theorem dX4_digest_79 : decode cX4_digest 79 = .ok (.goto (-52), 3) := by decide +kernel
theorem dX4_digest_82 : decode cX4_digest 82 = .ok (.aload_n 0, 1) := by decide +kernel
theorem dX4_digest_83 : decode cX4_digest 83 = .ok (.invokevirtual 91, 3) := by decide +kernel
theorem dX4_digest_86 : decode cX4_digest 86 = .ok (.iconst 0, 1) := by decide +kernel
theorem dX4_digest_87 : decode cX4_digest 87 = .ok (.istore_n 1, 1) := by decide +kernel
theorem dX4_digest_88 : decode cX4_digest 88 = .ok (.iload_n 1, 1) := by decide +kernel
theorem dX4_digest_89 : decode cX4_digest 89 = .ok (.aload_n 0, 1) := by decide +kernel
theorem dX4_digest_90 : decode cX4_digest 90 = .ok (.getfield 7, 3) := by decide +kernel
theorem dX4_digest_93 : decode cX4_digest 93 = .ok (.if_icmp .ge 56, 3) := by decide +kernel
theorem dX4_digest_96 : decode cX4_digest 96 = .ok (.aload_n 0, 1) := by decide +kernel
theorem dX4_digest_97 : decode cX4_digest 97 = .ok (.aload_n 0, 1) := by decide +kernel
theorem dX4_digest_98 : decode cX4_digest 98 = .ok (.getfield 21, 3) := by decide +kernel
theorem dX4_digest_101 : decode cX4_digest 101 = .ok (.iload_n 1, 1) := by decide +kernel
theorem dX4_digest_102 : decode cX4_digest 102 = .ok (.iaload, 1) := by decide +kernel
theorem dX4_digest_103 : decode cX4_digest 103 = .ok (.i2l, 1) := by decide +kernel
theorem dX4_digest_104 : decode cX4_digest 104 = .ok (.invokevirtual 142, 3) := by decide +kernel
theorem dX4_digest_107 : decode cX4_digest 107 = .ok (.aload_n 0, 1) := by decide +kernel
theorem dX4_digest_108 : decode cX4_digest 108 = .ok (.aload_n 0, 1) := by decide +kernel
theorem dX4_digest_109 : decode cX4_digest 109 = .ok (.getfield 24, 3) := by decide +kernel
theorem dX4_digest_112 : decode cX4_digest 112 = .ok (.iload_n 1, 1) := by decide +kernel
theorem dX4_digest_113 : decode cX4_digest 113 = .ok (.laload, 1) := by decide +kernel
theorem dX4_digest_114 : decode cX4_digest 114 = .ok (.aload_n 0, 1) := by decide +kernel
theorem dX4_digest_115 : decode cX4_digest 115 = .ok (.getfield 75, 3) := by decide +kernel
theorem dX4_digest_118 : decode cX4_digest 118 = .ok (.iconst 0, 1) := by decide +kernel
theorem dX4_digest_119 : decode cX4_digest 119 = .ok (.invokestatic 98, 3) := by decide +kernel
theorem dX4_digest_122 : decode cX4_digest 122 = .ok (.invokevirtual 142, 3) := by decide +kernel
theorem dX4_digest_125 : decode cX4_digest 125 = .ok (.aload_n 0, 1) := by decide +kernel
theorem dX4_digest_126 : decode cX4_digest 126 = .ok (.aload_n 0, 1) := by decide +kernel
theorem dX4_digest_127 : decode cX4_digest 127 = .ok (.getfield 24, 3) := by decide +kernel
theorem dX4_digest_130 : decode cX4_digest 130 = .ok (.iload_n 1, 1) := by decide +kernel
theorem dX4_digest_131 : decode cX4_digest 131 = .ok (.laload, 1) := by decide +kernel
theorem dX4_digest_132 : decode cX4_digest 132 = .ok (.aload_n 0, 1) := by decide +kernel
theorem dX4_digest_133 : decode cX4_digest 133 = .ok (.getfield 75, 3) := by decide +kernel
theorem dX4_digest_136 : decode cX4_digest 136 = .ok (.iconst 1, 1) := by decide +kernel
theorem dX4_digest_137 : decode cX4_digest 137 = .ok (.invokestatic 98, 3) := by decide +kernel
theorem dX4_digest_140 : decode cX4_digest 140 = .ok (.invokevirtual 142, 3) := by decide +kernel
theorem dX4_digest_143 : decode cX4_digest 143 = .ok (.iinc 1 1, 3) := by decide +kernel
theorem dX4_digest_146 : decode cX4_digest 146 = .ok (.goto (-58), 3) := by decide +kernel
theorem dX4_digest_149 : decode cX4_digest 149 = .ok (.aload_n 0, 1) := by decide +kernel
theorem dX4_digest_150 : decode cX4_digest 150 = .ok (.aload_n 0, 1) := by decide +kernel
theorem dX4_digest_151 : decode cX4_digest 151 = .ok (.getfield 53, 3) := by decide +kernel
theorem dX4_digest_154 : decode cX4_digest 154 = .ok (.invokevirtual 142, 3) := by decide +kernel
theorem dX4_digest_157 : decode cX4_digest 157 = .ok (.aload_n 0, 1) := by decide +kernel
theorem dX4_digest_158 : decode cX4_digest 158 = .ok (.getfield 137, 3) := by decide +kernel
theorem dX4_digest_161 : decode cX4_digest 161 = .ok (.lreturn, 1) := by decide +kernel
end
section
abbrev ZT : Type := va_G × (Nat → ClassId) × (Nat → Nat)
abbrev XT : Type := Program × Launch × Env × Room × State × MethodId × Array Value × List Frame × Method × Code × Nat × Nat × Nat × (Nat → Prop) × (State → Prop)
def lcs : Nat → List (Option Value) → List (Nat × Value)
  | _, [] => []
  | i, none :: t => lcs (i + 1) t
  | i, some v :: t => (i, v) :: lcs (i + 1) t
theorem lcs_mem : ∀ (L : List (Option Value)) (b : Nat) (q : Nat × Value), q ∈ lcs b L ↔ b ≤ q.1 ∧ L[q.1 - b]? = some (some q.2)
  | [], b, q => by simp [lcs]
  | none :: t, b, q => by
    rw [lcs, lcs_mem t (b + 1) q]
    constructor
    · rintro ⟨h1, h2⟩
      have e : q.1 - b = (q.1 - (b + 1)) + 1 := by omega
      exact ⟨by omega, by rw [e]; simpa using h2⟩
    · rintro ⟨h1, h2⟩
      by_cases e : q.1 = b
      · rw [show q.1 - b = 0 by omega] at h2
        simp at h2
      · have e2 : q.1 - b = (q.1 - (b + 1)) + 1 := by omega
        rw [e2] at h2
        exact ⟨by omega, by simpa using h2⟩
  | some v :: t, b, q => by
    rw [lcs, List.mem_cons, lcs_mem t (b + 1) q]
    constructor
    · rintro (h | ⟨h1, h2⟩)
      · subst h
        simp
      · have e : q.1 - b = (q.1 - (b + 1)) + 1 := by omega
        exact ⟨by omega, by rw [e]; simpa using h2⟩
    · rintro ⟨h1, h2⟩
      by_cases e : q.1 = b
      · left
        rw [show q.1 - b = 0 by omega] at h2
        simp at h2
        exact Prod.ext e h2.symm
      · right
        have e2 : q.1 - b = (q.1 - (b + 1)) + 1 := by omega
        rw [e2] at h2
        exact ⟨by omega, by simpa using h2⟩
theorem lcs0 (L : List (Option Value)) (q : Nat × Value) : q ∈ lcs 0 L ↔ L[q.1]? = some (some q.2) := by
  rw [lcs_mem]; simp
theorem lvh_mono {ls : Array Slot} {n : Nat} {l l' : List (Nat × Value)} (h : lv_has ls n l) (hs : ∀ q ∈ l', q ∈ l) : lv_has ls n l' := ⟨h.1, h.2.1, fun q hq => h.2.2 q (hs q hq)⟩
def nl : Option Value → Bool
  | some (.long _) => false
  | some (.double _) => false
  | _ => true
theorem nl_cat {v : Value} (h : nl (some v) = true) : v.category = 1 := by
  cases v <;> first | rfl | (simp [nl] at h)
/-- the slot ahead of i holds no long -/
def pv (L : List (Option Value)) (i : Nat) : Bool := match i with
  | 0 => true
  | j + 1 => nl (L[j]?.getD none)
theorem pv_ok {L : List (Option Value)} {i : Nat} (h : pv L i = true) {q : Nat × Value} (hq : L[q.1]? = some (some q.2)) (e : q.1 + 1 = i) : q.2.category = 1 := by
  subst e
  rw [pv, hq] at h
  exact nl_cat h
theorem lcs_set {L : List (Option Value)} {i : Nat} {v : Value} (hp : pv L i = true) : ∀ q ∈ lcs 0 (L.set i (some v)), q ∈ (i, v) :: (lcs 0 L).filter (fun q => !(q.1 == i) && !(q.1 + 1 == i && q.2.category == 2)) := by
  intro q hq
  rw [lcs0, List.getElem?_set] at hq
  by_cases e : i = q.1
  · subst e
    rw [if_pos rfl] at hq
    by_cases hl : q.1 < L.length
    · rw [if_pos hl] at hq
      simp at hq
      exact List.mem_cons.mpr (Or.inl (Prod.ext rfl hq.symm))
    · rw [if_neg hl] at hq
      cases hq
  · rw [if_neg e] at hq
    refine List.mem_cons.mpr (Or.inr (List.mem_filter.mpr ⟨(lcs0 L q).mpr hq, ?_⟩))
    have e1 : ¬ q.1 = i := fun h => e h.symm
    by_cases e2 : q.1 + 1 = i
    · have := pv_ok hp hq e2
      simp [e1, this]
    · simp [e1, e2]
theorem lcs_set2 {L : List (Option Value)} {i : Nat} {v : Value} (hp : pv L i = true) : ∀ q ∈ lcs 0 ((L.set i (some v)).set (i + 1) none), q ∈ (i, v) :: (lcs 0 L).filter (fun q => !(q.1 == i) && (!(q.1 == i + 1) && !(q.1 + 1 == i && q.2.category == 2))) := by
  intro q hq
  rw [lcs0, List.getElem?_set] at hq
  by_cases e0 : i + 1 = q.1
  · rw [if_pos e0] at hq
    by_cases hl : i + 1 < (L.set i (some v)).length
    · rw [if_pos hl] at hq
      simp at hq
    · rw [if_neg hl] at hq
      cases hq
  rw [if_neg e0, List.getElem?_set] at hq
  by_cases e : i = q.1
  · subst e
    rw [if_pos rfl] at hq
    by_cases hl : q.1 < L.length
    · rw [if_pos hl] at hq
      simp at hq
      exact List.mem_cons.mpr (Or.inl (Prod.ext rfl hq.symm))
    · rw [if_neg hl] at hq
      cases hq
  · rw [if_neg e] at hq
    refine List.mem_cons.mpr (Or.inr (List.mem_filter.mpr ⟨(lcs0 L q).mpr hq, ?_⟩))
    have e1 : ¬ q.1 = i := fun h => e h.symm
    have e3 : ¬ q.1 = i + 1 := fun h => e0 h.symm
    by_cases e2 : q.1 + 1 = i
    · have := pv_ok hp hq e2
      simp [e1, e3, this]
    · simp [e1, e2, e3]
def tysZ (Z : ZT) : List (ClassId × FieldType) := [(Z.2.1 0, .int), (Z.2.1 1, .long), (Z.2.1 2, .boolean)]
def allL : List Int32 := [12, 13, 14, 23, 24, 34, 123, 124, 132, 134, 142, 143, 234, 243, 1234, 1243, 1324, 1342, 1423, 1432]
def allR (j : Nat) : Int32 := allL.getD j 0
/-- the calls of a private method of a nest mate -/
def nestL : List (String × Nat × MethodName) := [(RX0, 28, yX3_put), (RX0, 32, yX3_at), (RX1, 40, yX3_put), (RX1, 44, yX3_putLong), (RX1, 103, yX3_at), (RX1, 99, yX3_longAt), (RX2, 19, yX3_at), (RX3, 9, yX0_init)]
def zNW (U : State) : Prop := ∀ q ∈ nestL, va_Nw (.methodLinkNest q.1 q.2.1 q.2.2 "WhoPays") U
/-- the one static row, which nobody writes; the words of the nest -/
def zST (Z : ZT) (A : Nat → Prop) (U : State) (H : Heap) : Prop := va_Z "WhoPays$Rings" "ALL" "[I" (.ref (Z.2.2 21)) A U H ∧ va_T .int (Z.2.2 21) 20 (fun j => .int (allR j)) A U H ∧ zNW U
def rmd (d : Nat) : Room := { frames := d, cells := 0, slots := 0, locals := 30 * d }
/-- a method's end: its answer and its world -/
def mQ (Z : ZT) (v : Option Value) (w' : va_W) (A : Nat → Prop) : Array Value → State → Outcome → State → Prop := fun _ st oc t =>
  (oc = .returned v ∧ va_P Z.1 clsL w' t.heap ∧ va_K Z.1 clsL (tysZ Z) t ∧ va_D A w') ∧ va_F A st t
/-- a method's start -/
def mP (Z : ZT) (args : List Value) (w : va_W) (sz : Nat) : Array Value → State → Prop :=
  va_Pc args (fun U => U.heap.size = sz ∧ va_P Z.1 clsL w U.heap ∧ va_K Z.1 clsL (tysZ Z) U ∧ va_D (fun _ => True) w ∧ zST Z (va_A w sz) U U.heap)
/-- a method's contract: from the world w with these arguments it answers v, and the world is w' -/
def MM (Z : ZT) (y : MethodName) (cc : ByteArray) (maxL : Nat) (ret : Option FieldType) (d : Nat) (args : List Value) (w : va_W) (v : Option Value) (w' : va_W) : Prop :=
  ∀ (l : Launch) (sz : Nat), Met l y (Cond.code y cc maxL ret :: tblG) (rmd d) (mP Z args w sz) (mQ Z v w' (va_A w sz)) 0 0 (va_A w sz)
theorem mP_blind {Z : ZT} {args : List Value} {w : va_W} {sz : Nat} : FrameBlind (mP Z args w sz) := by
  intro a U g mk q
  obtain ⟨q0, q1, qP, qK, qD, qS⟩ := q
  exact ⟨q0, q1, qP, va_K.moved (u := U) (U := U.calling g mk a) (Vm.Alike.refl U.vm) qK, qD, va_Z.moved (u := U) (U := U.calling g mk a) (Vm.Alike.refl U.vm) qS.1, va_T.moved (u := U) (U := U.calling g mk a) (Vm.Alike.refl U.vm) qS.2.1, fun q hq => va_Nw.same (U := U.calling g mk a) rfl rfl (qS.2.2 q hq)⟩
abbrev xS (X : XT) : State := X.2.2.2.2.1
abbrev xA (X : XT) : Nat → Prop := X.2.2.2.2.2.2.2.2.2.2.2.2.2.1
abbrev xnL (X : XT) : Nat := X.2.2.2.2.2.2.2.2.2.2.2.2.1
def GG (Z : ZT) (X : XT) (pc : Nat) (L : List (Option Value)) (S : List Value) (w : va_W) : Prop := match X with
  | (p, l, e, R, s, m, args, below, meth, c, ce, sl, nL, A, Q) => ∀ (H : Heap) (locs : List Loc) (ls : Array Slot), va_P Z.1 clsL w H → va_D A w → va_S A s.heap H locs → lv_has ls nL (lcs 0 L) →
    W p l e R s m args below meth c H locs ce sl Q (F0 m pc ls S)
def OK (Z : ZT) (X : XT) (cc : ByteArray) (own : String) (nL : Nat) (R : Room) : Prop := match X with
  | (p, _, _, R', s, m, args, _, meth, c, ce, sl, nL', A, _) => (p.tables.exec = Jvm.exec ∧ c.code = cc ∧ c.maxLocals = nL) ∧ s.vm.findClass own = some m.cls ∧ (∀ w ∈ tblG, w.before args s = true) ∧ meth.locks = false ∧
    va_K Z.1 clsL (tysZ Z) s ∧ zST Z A s s.heap ∧ (∀ q, s.heap.size ≤ q → A q) ∧ nL' = nL ∧ R' = R ∧ ce ≤ R.cells ∧ sl ≤ R.slots
def RT (Z : ZT) (X : XT) (ret : Option FieldType) (v : Option Value) (w' : va_W) : Prop := match X with
  | (_, _, _, _, s, _, args, below, meth, _, ce, sl, _, A, Q) => meth.sig.returnType = ret ∧ Q = MQ below (mQ Z v w' A) args s ce sl A
theorem MM.intro {Z : ZT} {y : MethodName} {cc : ByteArray} {maxL : Nat} {ret : Option FieldType} {d : Nat} {args : List Value} {w : va_W} {v : Option Value} {w' : va_W} (hy : plainName y.cls = true) (L0 : List (Option Value)) (hL : lcs 0 L0 = lv_args 0 args) (hn : (lg_sl args).length ≤ maxL)
    (body : ∀ X : XT, OK Z X cc y.cls maxL (rmd d) → RT Z X ret v w' → GG Z X 0 L0 [] w) : MM Z y cc maxL ret d args w v w' := by
  intro l sz
  refine Met.ofW (cc := cc) (maxL := maxL) (ret := ret) hy rfl ?_
  intro p e s m args' below meth c s₁ B hml hv
  obtain ⟨rfl, hsz, hP, hK, hD0, hST⟩ := hv
  subst hsz
  have hts := atoms_spec (ws := Cond.code y cc maxL ret :: tblG) B.pre
  have hl := lv_entry args (n := maxL) hn
  rw [← hL] at hl
  rw [lg_entry_eq]
  exact body (p, l, e, rmd d, s, m, args.toArray, below, meth, c, 0, 0, maxL, va_A w s.heap.size, MQ below (mQ Z v w' (va_A w s.heap.size)) args.toArray s 0 0 (va_A w s.heap.size))
    ⟨⟨B.exec, B.bytes, hml⟩, findClass_of_methodNamed B.named, fun x hx => hts x (List.mem_cons_of_mem _ hx), B.notSynchronized, hK, hST, fun q h => Or.inr h, rfl, rfl, Nat.zero_le _, Nat.zero_le _⟩
    ⟨B.returns, rfl⟩ s.heap [] _ hP (hD0.self (sz := s.heap.size)) va_S.rf hl
end
section
theorem g_iconst {Z : ZT} {X : XT} {cc : ByteArray} {own : String} {nL : Nat} {R : Room} {pc pc' : Nat} {L : List (Option Value)} {S : List Value} {w : va_W} {n : Int} {v : Int32} (h : OK Z X cc own nL R) (hd : decode cc pc = .ok (.iconst n, 1)) (hv : Int32.ofInt n = v) (hp : pc + 1 = pc') (k : GG Z X pc' L (.int v :: S) w) : GG Z X pc L S w := by
  obtain ⟨p, l, e, R0, s, m, args, below, meth, c, ce, sl, nL', A, Q⟩ := X
  obtain ⟨⟨hx, hb, hml⟩, hown, hts, hlk, hK, hST, hA, rfl, rfl, hce, hsl⟩ := h
  subst hp
  intro H locs ls hP hD hS hl
  exact lv_iconst hx hb hd hv (k H locs ls hP hD hS hl)
theorem g_bipush {Z : ZT} {X : XT} {cc : ByteArray} {own : String} {nL : Nat} {R : Room} {pc pc' : Nat} {L : List (Option Value)} {S : List Value} {w : va_W} {n : Int} {v : Int32} (h : OK Z X cc own nL R) (hd : decode cc pc = .ok (.bipush n, 2)) (hv : (Int8.ofInt n).toInt32 = v) (hp : pc + 2 = pc') (k : GG Z X pc' L (.int v :: S) w) : GG Z X pc L S w := by
  obtain ⟨p, l, e, R0, s, m, args, below, meth, c, ce, sl, nL', A, Q⟩ := X
  obtain ⟨⟨hx, hb, hml⟩, hown, hts, hlk, hK, hST, hA, rfl, rfl, hce, hsl⟩ := h
  subst hp
  intro H locs ls hP hD hS hl
  exact lv_bipush hx hb hd hv (k H locs ls hP hD hS hl)
theorem g_sipush {Z : ZT} {X : XT} {cc : ByteArray} {own : String} {nL : Nat} {R : Room} {pc pc' : Nat} {L : List (Option Value)} {S : List Value} {w : va_W} {n : Int} {v : Int32} (h : OK Z X cc own nL R) (hd : decode cc pc = .ok (.sipush n, 3)) (hv : (Int16.ofInt n).toInt32 = v) (hp : pc + 3 = pc') (k : GG Z X pc' L (.int v :: S) w) : GG Z X pc L S w := by
  obtain ⟨p, l, e, R0, s, m, args, below, meth, c, ce, sl, nL', A, Q⟩ := X
  obtain ⟨⟨hx, hb, hml⟩, hown, hts, hlk, hK, hST, hA, rfl, rfl, hce, hsl⟩ := h
  subst hp
  intro H locs ls hP hD hS hl
  exact lv_sipush hx hb hd hv (k H locs ls hP hD hS hl)
theorem g_lconst {Z : ZT} {X : XT} {cc : ByteArray} {own : String} {nL : Nat} {R : Room} {pc pc' : Nat} {L : List (Option Value)} {S : List Value} {w : va_W} {n : Fin 2} {v : Int64} (h : OK Z X cc own nL R) (hd : decode cc pc = .ok (.lconst n, 1)) (hv : Int64.ofNat (n : Nat) = v) (hp : pc + 1 = pc') (k : GG Z X pc' L (.long v :: S) w) : GG Z X pc L S w := by
  obtain ⟨p, l, e, R0, s, m, args, below, meth, c, ce, sl, nL', A, Q⟩ := X
  obtain ⟨⟨hx, hb, hml⟩, hown, hts, hlk, hK, hST, hA, rfl, rfl, hce, hsl⟩ := h
  subst hp
  intro H locs ls hP hD hS hl
  exact lv_lconst hx hb hd hv (k H locs ls hP hD hS hl)
theorem g_ldc {Z : ZT} {X : XT} {cc : ByteArray} {own : String} {nL : Nat} {R : Room} {pc pc' : Nat} {L : List (Option Value)} {S : List Value} {w : va_W} {n : Nat} {v : Int32} (h : OK Z X cc own nL R) (hd : decode cc pc = .ok (.ldc n, 2)) (hc : Cond.constant own n v ∈ tblG) (hp : pc + 2 = pc') (k : GG Z X pc' L (.int v :: S) w) : GG Z X pc L S w := by
  obtain ⟨p, l, e, R0, s, m, args, below, meth, c, ce, sl, nL', A, Q⟩ := X
  obtain ⟨⟨hx, hb, hml⟩, hown, hts, hlk, hK, hST, hA, rfl, rfl, hce, hsl⟩ := h
  subst hp
  intro H locs ls hP hD hS hl
  exact lv_ldc hx hb hown (hts _ hc) hd (k H locs ls hP hD hS hl)
theorem g_ldc2 {Z : ZT} {X : XT} {cc : ByteArray} {own : String} {nL : Nat} {R : Room} {pc pc' : Nat} {L : List (Option Value)} {S : List Value} {w : va_W} {n : Nat} {v : Int64} (h : OK Z X cc own nL R) (hd : decode cc pc = .ok (.ldc2_w n, 3)) (hc : Cond.constantLong own n v ∈ tblG) (hp : pc + 3 = pc') (k : GG Z X pc' L (.long v :: S) w) : GG Z X pc L S w := by
  obtain ⟨p, l, e, R0, s, m, args, below, meth, c, ce, sl, nL', A, Q⟩ := X
  obtain ⟨⟨hx, hb, hml⟩, hown, hts, hlk, hK, hST, hA, rfl, rfl, hce, hsl⟩ := h
  subst hp
  intro H locs ls hP hD hS hl
  exact lv_ldc2 hx hb hown (hts _ hc) hd (k H locs ls hP hD hS hl)
theorem g_iload_n {Z : ZT} {X : XT} {cc : ByteArray} {own : String} {nL : Nat} {R : Room} {pc pc' : Nat} {L : List (Option Value)} {S : List Value} {w : va_W} {k4 : Fin 4} {i : Nat} {x : Int32} (h : OK Z X cc own nL R) (hd : decode cc pc = .ok (.iload_n k4, 1)) (hi : (k4 : Nat) = i) (hL : L[i]? = some (some (.int x))) (hp : pc + 1 = pc') (k : GG Z X pc' L (.int x :: S) w) : GG Z X pc L S w := by
  obtain ⟨p, l, e, R0, s, m, args, below, meth, c, ce, sl, nL', A, Q⟩ := X
  obtain ⟨⟨hx, hb, hml⟩, hown, hts, hlk, hK, hST, hA, rfl, rfl, hce, hsl⟩ := h
  subst hp
  intro H locs ls hP hD hS hl
  exact lv_iload_n hx hb hd hi (hl.2.2 (i, _) ((lcs0 L (i, _)).mpr hL)) (k H locs ls hP hD hS hl)
theorem g_lload_n {Z : ZT} {X : XT} {cc : ByteArray} {own : String} {nL : Nat} {R : Room} {pc pc' : Nat} {L : List (Option Value)} {S : List Value} {w : va_W} {k4 : Fin 4} {i : Nat} {x : Int64} (h : OK Z X cc own nL R) (hd : decode cc pc = .ok (.lload_n k4, 1)) (hi : (k4 : Nat) = i) (hL : L[i]? = some (some (.long x))) (hp : pc + 1 = pc') (k : GG Z X pc' L (.long x :: S) w) : GG Z X pc L S w := by
  obtain ⟨p, l, e, R0, s, m, args, below, meth, c, ce, sl, nL', A, Q⟩ := X
  obtain ⟨⟨hx, hb, hml⟩, hown, hts, hlk, hK, hST, hA, rfl, rfl, hce, hsl⟩ := h
  subst hp
  intro H locs ls hP hD hS hl
  exact lv_lload_n hx hb hd hi (hl.2.2 (i, _) ((lcs0 L (i, _)).mpr hL)) (k H locs ls hP hD hS hl)
theorem g_aload_n {Z : ZT} {X : XT} {cc : ByteArray} {own : String} {nL : Nat} {R : Room} {pc pc' : Nat} {L : List (Option Value)} {S : List Value} {w : va_W} {k4 : Fin 4} {i : Nat} {x : Nat} (h : OK Z X cc own nL R) (hd : decode cc pc = .ok (.aload_n k4, 1)) (hi : (k4 : Nat) = i) (hL : L[i]? = some (some (.ref x))) (hp : pc + 1 = pc') (k : GG Z X pc' L (.ref x :: S) w) : GG Z X pc L S w := by
  obtain ⟨p, l, e, R0, s, m, args, below, meth, c, ce, sl, nL', A, Q⟩ := X
  obtain ⟨⟨hx, hb, hml⟩, hown, hts, hlk, hK, hST, hA, rfl, rfl, hce, hsl⟩ := h
  subst hp
  intro H locs ls hP hD hS hl
  exact lv_aload_n hx hb hd hi (hl.2.2 (i, _) ((lcs0 L (i, _)).mpr hL)) (k H locs ls hP hD hS hl)
theorem g_iload {Z : ZT} {X : XT} {cc : ByteArray} {own : String} {nL : Nat} {R : Room} {pc pc' : Nat} {L : List (Option Value)} {S : List Value} {w : va_W} {i : Nat} {x : Int32} (h : OK Z X cc own nL R) (hd : decode cc pc = .ok (.iload i, 2)) (hL : L[i]? = some (some (.int x))) (hp : pc + 2 = pc') (k : GG Z X pc' L (.int x :: S) w) : GG Z X pc L S w := by
  obtain ⟨p, l, e, R0, s, m, args, below, meth, c, ce, sl, nL', A, Q⟩ := X
  obtain ⟨⟨hx, hb, hml⟩, hown, hts, hlk, hK, hST, hA, rfl, rfl, hce, hsl⟩ := h
  subst hp
  intro H locs ls hP hD hS hl
  exact lv_iload hx hb hd (hl.2.2 (i, _) ((lcs0 L (i, _)).mpr hL)) (k H locs ls hP hD hS hl)
theorem g_lload {Z : ZT} {X : XT} {cc : ByteArray} {own : String} {nL : Nat} {R : Room} {pc pc' : Nat} {L : List (Option Value)} {S : List Value} {w : va_W} {i : Nat} {x : Int64} (h : OK Z X cc own nL R) (hd : decode cc pc = .ok (.lload i, 2)) (hL : L[i]? = some (some (.long x))) (hp : pc + 2 = pc') (k : GG Z X pc' L (.long x :: S) w) : GG Z X pc L S w := by
  obtain ⟨p, l, e, R0, s, m, args, below, meth, c, ce, sl, nL', A, Q⟩ := X
  obtain ⟨⟨hx, hb, hml⟩, hown, hts, hlk, hK, hST, hA, rfl, rfl, hce, hsl⟩ := h
  subst hp
  intro H locs ls hP hD hS hl
  exact lv_lload hx hb hd (hl.2.2 (i, _) ((lcs0 L (i, _)).mpr hL)) (k H locs ls hP hD hS hl)
theorem g_istore_nC {Z : ZT} {X : XT} {cc : ByteArray} {own : String} {nL : Nat} {R : Room} {pc pc' : Nat} {L : List (Option Value)} {S : List Value} {w : va_W} {k4 : Fin 4} {i : Nat} {x : Int32} (h : OK Z X cc own nL R) (hd : decode cc pc = .ok (.istore_n k4, 1)) (hi : (k4 : Nat) = i) (hv : pv L i = true) (hn : i < nL) (hp : pc + 1 = pc') (k : GG Z X pc' (L.set i (some (.int x))) S w) : GG Z X pc L (.int x :: S) w := by
  obtain ⟨p, l, e, R0, s, m, args, below, meth, c, ce, sl, nL', A, Q⟩ := X
  obtain ⟨⟨hx, hb, hml⟩, hown, hts, hlk, hK, hST, hA, rfl, rfl, hce, hsl⟩ := h
  subst hp
  intro H locs ls hP hD hS hl
  exact lv_istore_n hx hb hd hi hl hn rfl (fun ls' hl' => k H locs ls' hP hD hS (lvh_mono hl' (lcs_set hv)))
theorem g_istoreC {Z : ZT} {X : XT} {cc : ByteArray} {own : String} {nL : Nat} {R : Room} {pc pc' : Nat} {L : List (Option Value)} {S : List Value} {w : va_W} {i : Nat} {x : Int32} (h : OK Z X cc own nL R) (hd : decode cc pc = .ok (.istore i, 2)) (hv : pv L i = true) (hn : i < nL) (hp : pc + 2 = pc') (k : GG Z X pc' (L.set i (some (.int x))) S w) : GG Z X pc L (.int x :: S) w := by
  obtain ⟨p, l, e, R0, s, m, args, below, meth, c, ce, sl, nL', A, Q⟩ := X
  obtain ⟨⟨hx, hb, hml⟩, hown, hts, hlk, hK, hST, hA, rfl, rfl, hce, hsl⟩ := h
  subst hp
  intro H locs ls hP hD hS hl
  exact lv_istore hx hb hd hl hn rfl (fun ls' hl' => k H locs ls' hP hD hS (lvh_mono hl' (lcs_set hv)))
theorem g_astore_nC {Z : ZT} {X : XT} {cc : ByteArray} {own : String} {nL : Nat} {R : Room} {pc pc' : Nat} {L : List (Option Value)} {S : List Value} {w : va_W} {k4 : Fin 4} {i : Nat} {x : Nat} (h : OK Z X cc own nL R) (hd : decode cc pc = .ok (.astore_n k4, 1)) (hi : (k4 : Nat) = i) (hv : pv L i = true) (hn : i < nL) (hp : pc + 1 = pc') (k : GG Z X pc' (L.set i (some (.ref x))) S w) : GG Z X pc L (.ref x :: S) w := by
  obtain ⟨p, l, e, R0, s, m, args, below, meth, c, ce, sl, nL', A, Q⟩ := X
  obtain ⟨⟨hx, hb, hml⟩, hown, hts, hlk, hK, hST, hA, rfl, rfl, hce, hsl⟩ := h
  subst hp
  intro H locs ls hP hD hS hl
  exact lv_astore_n hx hb hd hi hl hn rfl (fun ls' hl' => k H locs ls' hP hD hS (lvh_mono hl' (lcs_set hv)))
theorem g_lstore_nC {Z : ZT} {X : XT} {cc : ByteArray} {own : String} {nL : Nat} {R : Room} {pc pc' : Nat} {L : List (Option Value)} {S : List Value} {w : va_W} {k4 : Fin 4} {i : Nat} {x : Int64} (h : OK Z X cc own nL R) (hd : decode cc pc = .ok (.lstore_n k4, 1)) (hi : (k4 : Nat) = i) (hv : pv L i = true) (hn : i + 1 < nL) (hp : pc + 1 = pc') (k : GG Z X pc' ((L.set i (some (.long x))).set (i + 1) none) S w) : GG Z X pc L (.long x :: S) w := by
  obtain ⟨p, l, e, R0, s, m, args, below, meth, c, ce, sl, nL', A, Q⟩ := X
  obtain ⟨⟨hx, hb, hml⟩, hown, hts, hlk, hK, hST, hA, rfl, rfl, hce, hsl⟩ := h
  subst hp
  intro H locs ls hP hD hS hl
  exact lv_lstore_n hx hb hd hi hl hn rfl (fun ls' hl' => k H locs ls' hP hD hS (lvh_mono hl' (lcs_set2 hv)))
theorem g_lstoreC {Z : ZT} {X : XT} {cc : ByteArray} {own : String} {nL : Nat} {R : Room} {pc pc' : Nat} {L : List (Option Value)} {S : List Value} {w : va_W} {i : Nat} {x : Int64} (h : OK Z X cc own nL R) (hd : decode cc pc = .ok (.lstore i, 2)) (hv : pv L i = true) (hn : i + 1 < nL) (hp : pc + 2 = pc') (k : GG Z X pc' ((L.set i (some (.long x))).set (i + 1) none) S w) : GG Z X pc L (.long x :: S) w := by
  obtain ⟨p, l, e, R0, s, m, args, below, meth, c, ce, sl, nL', A, Q⟩ := X
  obtain ⟨⟨hx, hb, hml⟩, hown, hts, hlk, hK, hST, hA, rfl, rfl, hce, hsl⟩ := h
  subst hp
  intro H locs ls hP hD hS hl
  exact lv_lstore hx hb hd hl hn rfl (fun ls' hl' => k H locs ls' hP hD hS (lvh_mono hl' (lcs_set2 hv)))
theorem g_iincC {Z : ZT} {X : XT} {cc : ByteArray} {own : String} {nL : Nat} {R : Room} {pc pc' : Nat} {L : List (Option Value)} {S : List Value} {w : va_W} {i : Nat} {n : Int} {x v : Int32} (h : OK Z X cc own nL R) (hd : decode cc pc = .ok (.iinc i n, 3)) (hL : L[i]? = some (some (.int x))) (hv : x + Int32.ofInt n = v) (hpv : pv L i = true) (hn : i < nL) (hp : pc + 3 = pc') (k : GG Z X pc' (L.set i (some (.int v))) S w) : GG Z X pc L S w := by
  obtain ⟨p, l, e, R0, s, m, args, below, meth, c, ce, sl, nL', A, Q⟩ := X
  obtain ⟨⟨hx, hb, hml⟩, hown, hts, hlk, hK, hST, hA, rfl, rfl, hce, hsl⟩ := h
  subst hp
  intro H locs ls hP hD hS hl
  obtain ⟨j, hj⟩ := List.getElem?_of_mem ((lcs0 L (i, .int x)).mpr hL)
  exact lv_iinc hx hb hd hl hj hv hn rfl (fun ls' hl' => k H locs ls' hP hD hS (lvh_mono hl' (lcs_set hpv)))
theorem g_istore0 {Z : ZT} {X : XT} {cc : ByteArray} {own : String} {nL : Nat} {R : Room} {pc pc' : Nat} {S : List Value} {w : va_W} {b : Option Value} {t : List (Option Value)} {x : Int32} (h : OK Z X cc own nL R) (hd : decode cc pc = .ok (.istore_n 0, 1))  (hn : 0 < nL) (hp : pc + 1 = pc') (k : GG Z X pc' (some (.int x) :: t) S w) : GG Z X pc (b :: t) (.int x :: S) w := g_istore_nC h hd rfl rfl hn hp k
theorem g_astore0 {Z : ZT} {X : XT} {cc : ByteArray} {own : String} {nL : Nat} {R : Room} {pc pc' : Nat} {S : List Value} {w : va_W} {b : Option Value} {t : List (Option Value)} {x : Nat} (h : OK Z X cc own nL R) (hd : decode cc pc = .ok (.astore_n 0, 1))  (hn : 0 < nL) (hp : pc + 1 = pc') (k : GG Z X pc' (some (.ref x) :: t) S w) : GG Z X pc (b :: t) (.ref x :: S) w := g_astore_nC h hd rfl rfl hn hp k
theorem g_lstore0 {Z : ZT} {X : XT} {cc : ByteArray} {own : String} {nL : Nat} {R : Room} {pc pc' : Nat} {S : List Value} {w : va_W} {b : Option Value} {t : List (Option Value)} {b2 : Option Value} {x : Int64} (h : OK Z X cc own nL R) (hd : decode cc pc = .ok (.lstore_n 0, 1))  (hn : 1 < nL) (hp : pc + 1 = pc') (k : GG Z X pc' (some (.long x) :: none :: t) S w) : GG Z X pc (b :: b2 :: t) (.long x :: S) w := g_lstore_nC h hd rfl rfl hn hp k
theorem g_iinc0 {Z : ZT} {X : XT} {cc : ByteArray} {own : String} {nL : Nat} {R : Room} {pc pc' : Nat} {S : List Value} {w : va_W} {t : List (Option Value)} {x v : Int32} {n : Int} (h : OK Z X cc own nL R) (hd : decode cc pc = .ok (.iinc 0 n, 3))  (hv : x + Int32.ofInt n = v) (hn : 0 < nL) (hp : pc + 3 = pc') (k : GG Z X pc' (some (.int v) :: t) S w) : GG Z X pc (some (.int x) :: t) S w := g_iincC (x := x) h hd (by rfl) hv rfl hn hp k
theorem g_istore1 {Z : ZT} {X : XT} {cc : ByteArray} {own : String} {nL : Nat} {R : Room} {pc pc' : Nat} {S : List Value} {w : va_W} {a0 : Option Value} {b : Option Value} {t : List (Option Value)} {x : Int32} (h : OK Z X cc own nL R) (hd : decode cc pc = .ok (.istore_n 1, 1)) (ha : nl a0 = true) (hn : 1 < nL) (hp : pc + 1 = pc') (k : GG Z X pc' (a0 :: some (.int x) :: t) S w) : GG Z X pc (a0 :: b :: t) (.int x :: S) w := g_istore_nC h hd rfl (by exact ha) hn hp k
theorem g_astore1 {Z : ZT} {X : XT} {cc : ByteArray} {own : String} {nL : Nat} {R : Room} {pc pc' : Nat} {S : List Value} {w : va_W} {a0 : Option Value} {b : Option Value} {t : List (Option Value)} {x : Nat} (h : OK Z X cc own nL R) (hd : decode cc pc = .ok (.astore_n 1, 1)) (ha : nl a0 = true) (hn : 1 < nL) (hp : pc + 1 = pc') (k : GG Z X pc' (a0 :: some (.ref x) :: t) S w) : GG Z X pc (a0 :: b :: t) (.ref x :: S) w := g_astore_nC h hd rfl (by exact ha) hn hp k
theorem g_lstore1 {Z : ZT} {X : XT} {cc : ByteArray} {own : String} {nL : Nat} {R : Room} {pc pc' : Nat} {S : List Value} {w : va_W} {a0 : Option Value} {b : Option Value} {t : List (Option Value)} {b2 : Option Value} {x : Int64} (h : OK Z X cc own nL R) (hd : decode cc pc = .ok (.lstore_n 1, 1)) (ha : nl a0 = true) (hn : 2 < nL) (hp : pc + 1 = pc') (k : GG Z X pc' (a0 :: some (.long x) :: none :: t) S w) : GG Z X pc (a0 :: b :: b2 :: t) (.long x :: S) w := g_lstore_nC h hd rfl (by exact ha) hn hp k
theorem g_iinc1 {Z : ZT} {X : XT} {cc : ByteArray} {own : String} {nL : Nat} {R : Room} {pc pc' : Nat} {S : List Value} {w : va_W} {a0 : Option Value} {t : List (Option Value)} {x v : Int32} {n : Int} (h : OK Z X cc own nL R) (hd : decode cc pc = .ok (.iinc 1 n, 3)) (ha : nl a0 = true) (hv : x + Int32.ofInt n = v) (hn : 1 < nL) (hp : pc + 3 = pc') (k : GG Z X pc' (a0 :: some (.int v) :: t) S w) : GG Z X pc (a0 :: some (.int x) :: t) S w := g_iincC (x := x) h hd (by rfl) hv (by exact ha) hn hp k
theorem g_istore2 {Z : ZT} {X : XT} {cc : ByteArray} {own : String} {nL : Nat} {R : Room} {pc pc' : Nat} {S : List Value} {w : va_W} {a0 a1 : Option Value} {b : Option Value} {t : List (Option Value)} {x : Int32} (h : OK Z X cc own nL R) (hd : decode cc pc = .ok (.istore_n 2, 1)) (ha : nl a1 = true) (hn : 2 < nL) (hp : pc + 1 = pc') (k : GG Z X pc' (a0 :: a1 :: some (.int x) :: t) S w) : GG Z X pc (a0 :: a1 :: b :: t) (.int x :: S) w := g_istore_nC h hd rfl (by exact ha) hn hp k
theorem g_astore2 {Z : ZT} {X : XT} {cc : ByteArray} {own : String} {nL : Nat} {R : Room} {pc pc' : Nat} {S : List Value} {w : va_W} {a0 a1 : Option Value} {b : Option Value} {t : List (Option Value)} {x : Nat} (h : OK Z X cc own nL R) (hd : decode cc pc = .ok (.astore_n 2, 1)) (ha : nl a1 = true) (hn : 2 < nL) (hp : pc + 1 = pc') (k : GG Z X pc' (a0 :: a1 :: some (.ref x) :: t) S w) : GG Z X pc (a0 :: a1 :: b :: t) (.ref x :: S) w := g_astore_nC h hd rfl (by exact ha) hn hp k
theorem g_lstore2 {Z : ZT} {X : XT} {cc : ByteArray} {own : String} {nL : Nat} {R : Room} {pc pc' : Nat} {S : List Value} {w : va_W} {a0 a1 : Option Value} {b : Option Value} {t : List (Option Value)} {b2 : Option Value} {x : Int64} (h : OK Z X cc own nL R) (hd : decode cc pc = .ok (.lstore_n 2, 1)) (ha : nl a1 = true) (hn : 3 < nL) (hp : pc + 1 = pc') (k : GG Z X pc' (a0 :: a1 :: some (.long x) :: none :: t) S w) : GG Z X pc (a0 :: a1 :: b :: b2 :: t) (.long x :: S) w := g_lstore_nC h hd rfl (by exact ha) hn hp k
theorem g_iinc2 {Z : ZT} {X : XT} {cc : ByteArray} {own : String} {nL : Nat} {R : Room} {pc pc' : Nat} {S : List Value} {w : va_W} {a0 a1 : Option Value} {t : List (Option Value)} {x v : Int32} {n : Int} (h : OK Z X cc own nL R) (hd : decode cc pc = .ok (.iinc 2 n, 3)) (ha : nl a1 = true) (hv : x + Int32.ofInt n = v) (hn : 2 < nL) (hp : pc + 3 = pc') (k : GG Z X pc' (a0 :: a1 :: some (.int v) :: t) S w) : GG Z X pc (a0 :: a1 :: some (.int x) :: t) S w := g_iincC (x := x) h hd (by rfl) hv (by exact ha) hn hp k
theorem g_istore3 {Z : ZT} {X : XT} {cc : ByteArray} {own : String} {nL : Nat} {R : Room} {pc pc' : Nat} {S : List Value} {w : va_W} {a0 a1 a2 : Option Value} {b : Option Value} {t : List (Option Value)} {x : Int32} (h : OK Z X cc own nL R) (hd : decode cc pc = .ok (.istore_n 3, 1)) (ha : nl a2 = true) (hn : 3 < nL) (hp : pc + 1 = pc') (k : GG Z X pc' (a0 :: a1 :: a2 :: some (.int x) :: t) S w) : GG Z X pc (a0 :: a1 :: a2 :: b :: t) (.int x :: S) w := g_istore_nC h hd rfl (by exact ha) hn hp k
theorem g_astore3 {Z : ZT} {X : XT} {cc : ByteArray} {own : String} {nL : Nat} {R : Room} {pc pc' : Nat} {S : List Value} {w : va_W} {a0 a1 a2 : Option Value} {b : Option Value} {t : List (Option Value)} {x : Nat} (h : OK Z X cc own nL R) (hd : decode cc pc = .ok (.astore_n 3, 1)) (ha : nl a2 = true) (hn : 3 < nL) (hp : pc + 1 = pc') (k : GG Z X pc' (a0 :: a1 :: a2 :: some (.ref x) :: t) S w) : GG Z X pc (a0 :: a1 :: a2 :: b :: t) (.ref x :: S) w := g_astore_nC h hd rfl (by exact ha) hn hp k
theorem g_lstore3 {Z : ZT} {X : XT} {cc : ByteArray} {own : String} {nL : Nat} {R : Room} {pc pc' : Nat} {S : List Value} {w : va_W} {a0 a1 a2 : Option Value} {b : Option Value} {t : List (Option Value)} {b2 : Option Value} {x : Int64} (h : OK Z X cc own nL R) (hd : decode cc pc = .ok (.lstore_n 3, 1)) (ha : nl a2 = true) (hn : 4 < nL) (hp : pc + 1 = pc') (k : GG Z X pc' (a0 :: a1 :: a2 :: some (.long x) :: none :: t) S w) : GG Z X pc (a0 :: a1 :: a2 :: b :: b2 :: t) (.long x :: S) w := g_lstore_nC h hd rfl (by exact ha) hn hp k
theorem g_iinc3 {Z : ZT} {X : XT} {cc : ByteArray} {own : String} {nL : Nat} {R : Room} {pc pc' : Nat} {S : List Value} {w : va_W} {a0 a1 a2 : Option Value} {t : List (Option Value)} {x v : Int32} {n : Int} (h : OK Z X cc own nL R) (hd : decode cc pc = .ok (.iinc 3 n, 3)) (ha : nl a2 = true) (hv : x + Int32.ofInt n = v) (hn : 3 < nL) (hp : pc + 3 = pc') (k : GG Z X pc' (a0 :: a1 :: a2 :: some (.int v) :: t) S w) : GG Z X pc (a0 :: a1 :: a2 :: some (.int x) :: t) S w := g_iincC (x := x) h hd (by rfl) hv (by exact ha) hn hp k
theorem g_istore4 {Z : ZT} {X : XT} {cc : ByteArray} {own : String} {nL : Nat} {R : Room} {pc pc' : Nat} {S : List Value} {w : va_W} {a0 a1 a2 a3 : Option Value} {b : Option Value} {t : List (Option Value)} {x : Int32} (h : OK Z X cc own nL R) (hd : decode cc pc = .ok (.istore 4, 2)) (ha : nl a3 = true) (hn : 4 < nL) (hp : pc + 2 = pc') (k : GG Z X pc' (a0 :: a1 :: a2 :: a3 :: some (.int x) :: t) S w) : GG Z X pc (a0 :: a1 :: a2 :: a3 :: b :: t) (.int x :: S) w := g_istoreC h hd (by exact ha) hn hp k
theorem g_lstore4 {Z : ZT} {X : XT} {cc : ByteArray} {own : String} {nL : Nat} {R : Room} {pc pc' : Nat} {S : List Value} {w : va_W} {a0 a1 a2 a3 : Option Value} {b : Option Value} {t : List (Option Value)} {b2 : Option Value} {x : Int64} (h : OK Z X cc own nL R) (hd : decode cc pc = .ok (.lstore 4, 2)) (ha : nl a3 = true) (hn : 5 < nL) (hp : pc + 2 = pc') (k : GG Z X pc' (a0 :: a1 :: a2 :: a3 :: some (.long x) :: none :: t) S w) : GG Z X pc (a0 :: a1 :: a2 :: a3 :: b :: b2 :: t) (.long x :: S) w := g_lstoreC h hd (by exact ha) hn hp k
theorem g_iinc4 {Z : ZT} {X : XT} {cc : ByteArray} {own : String} {nL : Nat} {R : Room} {pc pc' : Nat} {S : List Value} {w : va_W} {a0 a1 a2 a3 : Option Value} {t : List (Option Value)} {x v : Int32} {n : Int} (h : OK Z X cc own nL R) (hd : decode cc pc = .ok (.iinc 4 n, 3)) (ha : nl a3 = true) (hv : x + Int32.ofInt n = v) (hn : 4 < nL) (hp : pc + 3 = pc') (k : GG Z X pc' (a0 :: a1 :: a2 :: a3 :: some (.int v) :: t) S w) : GG Z X pc (a0 :: a1 :: a2 :: a3 :: some (.int x) :: t) S w := g_iincC (x := x) h hd (by rfl) hv (by exact ha) hn hp k
theorem g_istore5 {Z : ZT} {X : XT} {cc : ByteArray} {own : String} {nL : Nat} {R : Room} {pc pc' : Nat} {S : List Value} {w : va_W} {a0 a1 a2 a3 a4 : Option Value} {b : Option Value} {t : List (Option Value)} {x : Int32} (h : OK Z X cc own nL R) (hd : decode cc pc = .ok (.istore 5, 2)) (ha : nl a4 = true) (hn : 5 < nL) (hp : pc + 2 = pc') (k : GG Z X pc' (a0 :: a1 :: a2 :: a3 :: a4 :: some (.int x) :: t) S w) : GG Z X pc (a0 :: a1 :: a2 :: a3 :: a4 :: b :: t) (.int x :: S) w := g_istoreC h hd (by exact ha) hn hp k
theorem g_lstore5 {Z : ZT} {X : XT} {cc : ByteArray} {own : String} {nL : Nat} {R : Room} {pc pc' : Nat} {S : List Value} {w : va_W} {a0 a1 a2 a3 a4 : Option Value} {b : Option Value} {t : List (Option Value)} {b2 : Option Value} {x : Int64} (h : OK Z X cc own nL R) (hd : decode cc pc = .ok (.lstore 5, 2)) (ha : nl a4 = true) (hn : 6 < nL) (hp : pc + 2 = pc') (k : GG Z X pc' (a0 :: a1 :: a2 :: a3 :: a4 :: some (.long x) :: none :: t) S w) : GG Z X pc (a0 :: a1 :: a2 :: a3 :: a4 :: b :: b2 :: t) (.long x :: S) w := g_lstoreC h hd (by exact ha) hn hp k
theorem g_iinc5 {Z : ZT} {X : XT} {cc : ByteArray} {own : String} {nL : Nat} {R : Room} {pc pc' : Nat} {S : List Value} {w : va_W} {a0 a1 a2 a3 a4 : Option Value} {t : List (Option Value)} {x v : Int32} {n : Int} (h : OK Z X cc own nL R) (hd : decode cc pc = .ok (.iinc 5 n, 3)) (ha : nl a4 = true) (hv : x + Int32.ofInt n = v) (hn : 5 < nL) (hp : pc + 3 = pc') (k : GG Z X pc' (a0 :: a1 :: a2 :: a3 :: a4 :: some (.int v) :: t) S w) : GG Z X pc (a0 :: a1 :: a2 :: a3 :: a4 :: some (.int x) :: t) S w := g_iincC (x := x) h hd (by rfl) hv (by exact ha) hn hp k
theorem g_istore6 {Z : ZT} {X : XT} {cc : ByteArray} {own : String} {nL : Nat} {R : Room} {pc pc' : Nat} {S : List Value} {w : va_W} {a0 a1 a2 a3 a4 a5 : Option Value} {b : Option Value} {t : List (Option Value)} {x : Int32} (h : OK Z X cc own nL R) (hd : decode cc pc = .ok (.istore 6, 2)) (ha : nl a5 = true) (hn : 6 < nL) (hp : pc + 2 = pc') (k : GG Z X pc' (a0 :: a1 :: a2 :: a3 :: a4 :: a5 :: some (.int x) :: t) S w) : GG Z X pc (a0 :: a1 :: a2 :: a3 :: a4 :: a5 :: b :: t) (.int x :: S) w := g_istoreC h hd (by exact ha) hn hp k
theorem g_lstore6 {Z : ZT} {X : XT} {cc : ByteArray} {own : String} {nL : Nat} {R : Room} {pc pc' : Nat} {S : List Value} {w : va_W} {a0 a1 a2 a3 a4 a5 : Option Value} {b : Option Value} {t : List (Option Value)} {b2 : Option Value} {x : Int64} (h : OK Z X cc own nL R) (hd : decode cc pc = .ok (.lstore 6, 2)) (ha : nl a5 = true) (hn : 7 < nL) (hp : pc + 2 = pc') (k : GG Z X pc' (a0 :: a1 :: a2 :: a3 :: a4 :: a5 :: some (.long x) :: none :: t) S w) : GG Z X pc (a0 :: a1 :: a2 :: a3 :: a4 :: a5 :: b :: b2 :: t) (.long x :: S) w := g_lstoreC h hd (by exact ha) hn hp k
theorem g_iinc6 {Z : ZT} {X : XT} {cc : ByteArray} {own : String} {nL : Nat} {R : Room} {pc pc' : Nat} {S : List Value} {w : va_W} {a0 a1 a2 a3 a4 a5 : Option Value} {t : List (Option Value)} {x v : Int32} {n : Int} (h : OK Z X cc own nL R) (hd : decode cc pc = .ok (.iinc 6 n, 3)) (ha : nl a5 = true) (hv : x + Int32.ofInt n = v) (hn : 6 < nL) (hp : pc + 3 = pc') (k : GG Z X pc' (a0 :: a1 :: a2 :: a3 :: a4 :: a5 :: some (.int v) :: t) S w) : GG Z X pc (a0 :: a1 :: a2 :: a3 :: a4 :: a5 :: some (.int x) :: t) S w := g_iincC (x := x) h hd (by rfl) hv (by exact ha) hn hp k
theorem g_istore7 {Z : ZT} {X : XT} {cc : ByteArray} {own : String} {nL : Nat} {R : Room} {pc pc' : Nat} {S : List Value} {w : va_W} {a0 a1 a2 a3 a4 a5 a6 : Option Value} {b : Option Value} {t : List (Option Value)} {x : Int32} (h : OK Z X cc own nL R) (hd : decode cc pc = .ok (.istore 7, 2)) (ha : nl a6 = true) (hn : 7 < nL) (hp : pc + 2 = pc') (k : GG Z X pc' (a0 :: a1 :: a2 :: a3 :: a4 :: a5 :: a6 :: some (.int x) :: t) S w) : GG Z X pc (a0 :: a1 :: a2 :: a3 :: a4 :: a5 :: a6 :: b :: t) (.int x :: S) w := g_istoreC h hd (by exact ha) hn hp k
theorem g_lstore7 {Z : ZT} {X : XT} {cc : ByteArray} {own : String} {nL : Nat} {R : Room} {pc pc' : Nat} {S : List Value} {w : va_W} {a0 a1 a2 a3 a4 a5 a6 : Option Value} {b : Option Value} {t : List (Option Value)} {b2 : Option Value} {x : Int64} (h : OK Z X cc own nL R) (hd : decode cc pc = .ok (.lstore 7, 2)) (ha : nl a6 = true) (hn : 8 < nL) (hp : pc + 2 = pc') (k : GG Z X pc' (a0 :: a1 :: a2 :: a3 :: a4 :: a5 :: a6 :: some (.long x) :: none :: t) S w) : GG Z X pc (a0 :: a1 :: a2 :: a3 :: a4 :: a5 :: a6 :: b :: b2 :: t) (.long x :: S) w := g_lstoreC h hd (by exact ha) hn hp k
theorem g_iinc7 {Z : ZT} {X : XT} {cc : ByteArray} {own : String} {nL : Nat} {R : Room} {pc pc' : Nat} {S : List Value} {w : va_W} {a0 a1 a2 a3 a4 a5 a6 : Option Value} {t : List (Option Value)} {x v : Int32} {n : Int} (h : OK Z X cc own nL R) (hd : decode cc pc = .ok (.iinc 7 n, 3)) (ha : nl a6 = true) (hv : x + Int32.ofInt n = v) (hn : 7 < nL) (hp : pc + 3 = pc') (k : GG Z X pc' (a0 :: a1 :: a2 :: a3 :: a4 :: a5 :: a6 :: some (.int v) :: t) S w) : GG Z X pc (a0 :: a1 :: a2 :: a3 :: a4 :: a5 :: a6 :: some (.int x) :: t) S w := g_iincC (x := x) h hd (by rfl) hv (by exact ha) hn hp k
theorem g_istore8 {Z : ZT} {X : XT} {cc : ByteArray} {own : String} {nL : Nat} {R : Room} {pc pc' : Nat} {S : List Value} {w : va_W} {a0 a1 a2 a3 a4 a5 a6 a7 : Option Value} {b : Option Value} {t : List (Option Value)} {x : Int32} (h : OK Z X cc own nL R) (hd : decode cc pc = .ok (.istore 8, 2)) (ha : nl a7 = true) (hn : 8 < nL) (hp : pc + 2 = pc') (k : GG Z X pc' (a0 :: a1 :: a2 :: a3 :: a4 :: a5 :: a6 :: a7 :: some (.int x) :: t) S w) : GG Z X pc (a0 :: a1 :: a2 :: a3 :: a4 :: a5 :: a6 :: a7 :: b :: t) (.int x :: S) w := g_istoreC h hd (by exact ha) hn hp k
theorem g_lstore8 {Z : ZT} {X : XT} {cc : ByteArray} {own : String} {nL : Nat} {R : Room} {pc pc' : Nat} {S : List Value} {w : va_W} {a0 a1 a2 a3 a4 a5 a6 a7 : Option Value} {b : Option Value} {t : List (Option Value)} {b2 : Option Value} {x : Int64} (h : OK Z X cc own nL R) (hd : decode cc pc = .ok (.lstore 8, 2)) (ha : nl a7 = true) (hn : 9 < nL) (hp : pc + 2 = pc') (k : GG Z X pc' (a0 :: a1 :: a2 :: a3 :: a4 :: a5 :: a6 :: a7 :: some (.long x) :: none :: t) S w) : GG Z X pc (a0 :: a1 :: a2 :: a3 :: a4 :: a5 :: a6 :: a7 :: b :: b2 :: t) (.long x :: S) w := g_lstoreC h hd (by exact ha) hn hp k
theorem g_iinc8 {Z : ZT} {X : XT} {cc : ByteArray} {own : String} {nL : Nat} {R : Room} {pc pc' : Nat} {S : List Value} {w : va_W} {a0 a1 a2 a3 a4 a5 a6 a7 : Option Value} {t : List (Option Value)} {x v : Int32} {n : Int} (h : OK Z X cc own nL R) (hd : decode cc pc = .ok (.iinc 8 n, 3)) (ha : nl a7 = true) (hv : x + Int32.ofInt n = v) (hn : 8 < nL) (hp : pc + 3 = pc') (k : GG Z X pc' (a0 :: a1 :: a2 :: a3 :: a4 :: a5 :: a6 :: a7 :: some (.int v) :: t) S w) : GG Z X pc (a0 :: a1 :: a2 :: a3 :: a4 :: a5 :: a6 :: a7 :: some (.int x) :: t) S w := g_iincC (x := x) h hd (by rfl) hv (by exact ha) hn hp k
theorem g_istore9 {Z : ZT} {X : XT} {cc : ByteArray} {own : String} {nL : Nat} {R : Room} {pc pc' : Nat} {S : List Value} {w : va_W} {a0 a1 a2 a3 a4 a5 a6 a7 a8 : Option Value} {b : Option Value} {t : List (Option Value)} {x : Int32} (h : OK Z X cc own nL R) (hd : decode cc pc = .ok (.istore 9, 2)) (ha : nl a8 = true) (hn : 9 < nL) (hp : pc + 2 = pc') (k : GG Z X pc' (a0 :: a1 :: a2 :: a3 :: a4 :: a5 :: a6 :: a7 :: a8 :: some (.int x) :: t) S w) : GG Z X pc (a0 :: a1 :: a2 :: a3 :: a4 :: a5 :: a6 :: a7 :: a8 :: b :: t) (.int x :: S) w := g_istoreC h hd (by exact ha) hn hp k
theorem g_lstore9 {Z : ZT} {X : XT} {cc : ByteArray} {own : String} {nL : Nat} {R : Room} {pc pc' : Nat} {S : List Value} {w : va_W} {a0 a1 a2 a3 a4 a5 a6 a7 a8 : Option Value} {b : Option Value} {t : List (Option Value)} {b2 : Option Value} {x : Int64} (h : OK Z X cc own nL R) (hd : decode cc pc = .ok (.lstore 9, 2)) (ha : nl a8 = true) (hn : 10 < nL) (hp : pc + 2 = pc') (k : GG Z X pc' (a0 :: a1 :: a2 :: a3 :: a4 :: a5 :: a6 :: a7 :: a8 :: some (.long x) :: none :: t) S w) : GG Z X pc (a0 :: a1 :: a2 :: a3 :: a4 :: a5 :: a6 :: a7 :: a8 :: b :: b2 :: t) (.long x :: S) w := g_lstoreC h hd (by exact ha) hn hp k
theorem g_iinc9 {Z : ZT} {X : XT} {cc : ByteArray} {own : String} {nL : Nat} {R : Room} {pc pc' : Nat} {S : List Value} {w : va_W} {a0 a1 a2 a3 a4 a5 a6 a7 a8 : Option Value} {t : List (Option Value)} {x v : Int32} {n : Int} (h : OK Z X cc own nL R) (hd : decode cc pc = .ok (.iinc 9 n, 3)) (ha : nl a8 = true) (hv : x + Int32.ofInt n = v) (hn : 9 < nL) (hp : pc + 3 = pc') (k : GG Z X pc' (a0 :: a1 :: a2 :: a3 :: a4 :: a5 :: a6 :: a7 :: a8 :: some (.int v) :: t) S w) : GG Z X pc (a0 :: a1 :: a2 :: a3 :: a4 :: a5 :: a6 :: a7 :: a8 :: some (.int x) :: t) S w := g_iincC (x := x) h hd (by rfl) hv (by exact ha) hn hp k
theorem g_istore10 {Z : ZT} {X : XT} {cc : ByteArray} {own : String} {nL : Nat} {R : Room} {pc pc' : Nat} {S : List Value} {w : va_W} {a0 a1 a2 a3 a4 a5 a6 a7 a8 a9 : Option Value} {b : Option Value} {t : List (Option Value)} {x : Int32} (h : OK Z X cc own nL R) (hd : decode cc pc = .ok (.istore 10, 2)) (ha : nl a9 = true) (hn : 10 < nL) (hp : pc + 2 = pc') (k : GG Z X pc' (a0 :: a1 :: a2 :: a3 :: a4 :: a5 :: a6 :: a7 :: a8 :: a9 :: some (.int x) :: t) S w) : GG Z X pc (a0 :: a1 :: a2 :: a3 :: a4 :: a5 :: a6 :: a7 :: a8 :: a9 :: b :: t) (.int x :: S) w := g_istoreC h hd (by exact ha) hn hp k
theorem g_lstore10 {Z : ZT} {X : XT} {cc : ByteArray} {own : String} {nL : Nat} {R : Room} {pc pc' : Nat} {S : List Value} {w : va_W} {a0 a1 a2 a3 a4 a5 a6 a7 a8 a9 : Option Value} {b : Option Value} {t : List (Option Value)} {b2 : Option Value} {x : Int64} (h : OK Z X cc own nL R) (hd : decode cc pc = .ok (.lstore 10, 2)) (ha : nl a9 = true) (hn : 11 < nL) (hp : pc + 2 = pc') (k : GG Z X pc' (a0 :: a1 :: a2 :: a3 :: a4 :: a5 :: a6 :: a7 :: a8 :: a9 :: some (.long x) :: none :: t) S w) : GG Z X pc (a0 :: a1 :: a2 :: a3 :: a4 :: a5 :: a6 :: a7 :: a8 :: a9 :: b :: b2 :: t) (.long x :: S) w := g_lstoreC h hd (by exact ha) hn hp k
theorem g_iinc10 {Z : ZT} {X : XT} {cc : ByteArray} {own : String} {nL : Nat} {R : Room} {pc pc' : Nat} {S : List Value} {w : va_W} {a0 a1 a2 a3 a4 a5 a6 a7 a8 a9 : Option Value} {t : List (Option Value)} {x v : Int32} {n : Int} (h : OK Z X cc own nL R) (hd : decode cc pc = .ok (.iinc 10 n, 3)) (ha : nl a9 = true) (hv : x + Int32.ofInt n = v) (hn : 10 < nL) (hp : pc + 3 = pc') (k : GG Z X pc' (a0 :: a1 :: a2 :: a3 :: a4 :: a5 :: a6 :: a7 :: a8 :: a9 :: some (.int v) :: t) S w) : GG Z X pc (a0 :: a1 :: a2 :: a3 :: a4 :: a5 :: a6 :: a7 :: a8 :: a9 :: some (.int x) :: t) S w := g_iincC (x := x) h hd (by rfl) hv (by exact ha) hn hp k
theorem g_iadd {Z : ZT} {X : XT} {cc : ByteArray} {own : String} {nL : Nat} {R : Room} {pc pc' : Nat} {L : List (Option Value)} {S : List Value} {w : va_W} {x y : Int32} (h : OK Z X cc own nL R) (hd : decode cc pc = .ok (.iadd, 1))  (hp : pc + 1 = pc') (k : GG Z X pc' L (.int (x + y) :: S) w) : GG Z X pc L (.int y :: .int x :: S) w := by
  obtain ⟨p, l, e, R0, s, m, args, below, meth, c, ce, sl, nL', A, Q⟩ := X
  obtain ⟨⟨hx, hb, hml⟩, hown, hts, hlk, hK, hST, hA, rfl, rfl, hce, hsl⟩ := h
  subst hp
  intro H locs ls hP hD hS hl
  exact lv_iadd hx hb hd (k H locs ls hP hD hS hl)
theorem g_isub {Z : ZT} {X : XT} {cc : ByteArray} {own : String} {nL : Nat} {R : Room} {pc pc' : Nat} {L : List (Option Value)} {S : List Value} {w : va_W} {x y : Int32} (h : OK Z X cc own nL R) (hd : decode cc pc = .ok (.isub, 1))  (hp : pc + 1 = pc') (k : GG Z X pc' L (.int (x - y) :: S) w) : GG Z X pc L (.int y :: .int x :: S) w := by
  obtain ⟨p, l, e, R0, s, m, args, below, meth, c, ce, sl, nL', A, Q⟩ := X
  obtain ⟨⟨hx, hb, hml⟩, hown, hts, hlk, hK, hST, hA, rfl, rfl, hce, hsl⟩ := h
  subst hp
  intro H locs ls hP hD hS hl
  exact lv_isub hx hb hd (k H locs ls hP hD hS hl)
theorem g_imul {Z : ZT} {X : XT} {cc : ByteArray} {own : String} {nL : Nat} {R : Room} {pc pc' : Nat} {L : List (Option Value)} {S : List Value} {w : va_W} {x y : Int32} (h : OK Z X cc own nL R) (hd : decode cc pc = .ok (.imul, 1))  (hp : pc + 1 = pc') (k : GG Z X pc' L (.int (x * y) :: S) w) : GG Z X pc L (.int y :: .int x :: S) w := by
  obtain ⟨p, l, e, R0, s, m, args, below, meth, c, ce, sl, nL', A, Q⟩ := X
  obtain ⟨⟨hx, hb, hml⟩, hown, hts, hlk, hK, hST, hA, rfl, rfl, hce, hsl⟩ := h
  subst hp
  intro H locs ls hP hD hS hl
  exact lv_imul hx hb hd (k H locs ls hP hD hS hl)
theorem g_iand {Z : ZT} {X : XT} {cc : ByteArray} {own : String} {nL : Nat} {R : Room} {pc pc' : Nat} {L : List (Option Value)} {S : List Value} {w : va_W} {x y : Int32} (h : OK Z X cc own nL R) (hd : decode cc pc = .ok (.iand, 1))  (hp : pc + 1 = pc') (k : GG Z X pc' L (.int (x &&& y) :: S) w) : GG Z X pc L (.int y :: .int x :: S) w := by
  obtain ⟨p, l, e, R0, s, m, args, below, meth, c, ce, sl, nL', A, Q⟩ := X
  obtain ⟨⟨hx, hb, hml⟩, hown, hts, hlk, hK, hST, hA, rfl, rfl, hce, hsl⟩ := h
  subst hp
  intro H locs ls hP hD hS hl
  exact lv_iand hx hb hd (k H locs ls hP hD hS hl)
theorem g_ladd {Z : ZT} {X : XT} {cc : ByteArray} {own : String} {nL : Nat} {R : Room} {pc pc' : Nat} {L : List (Option Value)} {S : List Value} {w : va_W} {x y : Int64} (h : OK Z X cc own nL R) (hd : decode cc pc = .ok (.ladd, 1))  (hp : pc + 1 = pc') (k : GG Z X pc' L (.long (x + y) :: S) w) : GG Z X pc L (.long y :: .long x :: S) w := by
  obtain ⟨p, l, e, R0, s, m, args, below, meth, c, ce, sl, nL', A, Q⟩ := X
  obtain ⟨⟨hx, hb, hml⟩, hown, hts, hlk, hK, hST, hA, rfl, rfl, hce, hsl⟩ := h
  subst hp
  intro H locs ls hP hD hS hl
  exact lv_ladd hx hb hd (k H locs ls hP hD hS hl)
theorem g_lsub {Z : ZT} {X : XT} {cc : ByteArray} {own : String} {nL : Nat} {R : Room} {pc pc' : Nat} {L : List (Option Value)} {S : List Value} {w : va_W} {x y : Int64} (h : OK Z X cc own nL R) (hd : decode cc pc = .ok (.lsub, 1))  (hp : pc + 1 = pc') (k : GG Z X pc' L (.long (x - y) :: S) w) : GG Z X pc L (.long y :: .long x :: S) w := by
  obtain ⟨p, l, e, R0, s, m, args, below, meth, c, ce, sl, nL', A, Q⟩ := X
  obtain ⟨⟨hx, hb, hml⟩, hown, hts, hlk, hK, hST, hA, rfl, rfl, hce, hsl⟩ := h
  subst hp
  intro H locs ls hP hD hS hl
  exact lv_lsub hx hb hd (k H locs ls hP hD hS hl)
theorem g_lmul {Z : ZT} {X : XT} {cc : ByteArray} {own : String} {nL : Nat} {R : Room} {pc pc' : Nat} {L : List (Option Value)} {S : List Value} {w : va_W} {x y : Int64} (h : OK Z X cc own nL R) (hd : decode cc pc = .ok (.lmul, 1))  (hp : pc + 1 = pc') (k : GG Z X pc' L (.long (x * y) :: S) w) : GG Z X pc L (.long y :: .long x :: S) w := by
  obtain ⟨p, l, e, R0, s, m, args, below, meth, c, ce, sl, nL', A, Q⟩ := X
  obtain ⟨⟨hx, hb, hml⟩, hown, hts, hlk, hK, hST, hA, rfl, rfl, hce, hsl⟩ := h
  subst hp
  intro H locs ls hP hD hS hl
  exact lv_lmul hx hb hd (k H locs ls hP hD hS hl)
theorem g_idiv {Z : ZT} {X : XT} {cc : ByteArray} {own : String} {nL : Nat} {R : Room} {pc pc' : Nat} {L : List (Option Value)} {S : List Value} {w : va_W} {x y : Int32} (h : OK Z X cc own nL R) (hd : decode cc pc = .ok (.idiv, 1)) (hne : ¬ y = 0) (hp : pc + 1 = pc') (k : GG Z X pc' L (.int (x / y) :: S) w) : GG Z X pc L (.int y :: .int x :: S) w := by
  obtain ⟨p, l, e, R0, s, m, args, below, meth, c, ce, sl, nL', A, Q⟩ := X
  obtain ⟨⟨hx, hb, hml⟩, hown, hts, hlk, hK, hST, hA, rfl, rfl, hce, hsl⟩ := h
  subst hp
  intro H locs ls hP hD hS hl
  exact lv_idiv hx hb hd hne (k H locs ls hP hD hS hl)
theorem g_irem {Z : ZT} {X : XT} {cc : ByteArray} {own : String} {nL : Nat} {R : Room} {pc pc' : Nat} {L : List (Option Value)} {S : List Value} {w : va_W} {x y : Int32} (h : OK Z X cc own nL R) (hd : decode cc pc = .ok (.irem, 1)) (hne : ¬ y = 0) (hp : pc + 1 = pc') (k : GG Z X pc' L (.int (x - x / y * y) :: S) w) : GG Z X pc L (.int y :: .int x :: S) w := by
  obtain ⟨p, l, e, R0, s, m, args, below, meth, c, ce, sl, nL', A, Q⟩ := X
  obtain ⟨⟨hx, hb, hml⟩, hown, hts, hlk, hK, hST, hA, rfl, rfl, hce, hsl⟩ := h
  subst hp
  intro H locs ls hP hD hS hl
  exact lv_irem hx hb hd hne (k H locs ls hP hD hS hl)
theorem g_ldiv {Z : ZT} {X : XT} {cc : ByteArray} {own : String} {nL : Nat} {R : Room} {pc pc' : Nat} {L : List (Option Value)} {S : List Value} {w : va_W} {x y : Int64} (h : OK Z X cc own nL R) (hd : decode cc pc = .ok (.ldiv, 1)) (hne : ¬ y = 0) (hp : pc + 1 = pc') (k : GG Z X pc' L (.long (x / y) :: S) w) : GG Z X pc L (.long y :: .long x :: S) w := by
  obtain ⟨p, l, e, R0, s, m, args, below, meth, c, ce, sl, nL', A, Q⟩ := X
  obtain ⟨⟨hx, hb, hml⟩, hown, hts, hlk, hK, hST, hA, rfl, rfl, hce, hsl⟩ := h
  subst hp
  intro H locs ls hP hD hS hl
  exact lv_ldiv hx hb hd hne (k H locs ls hP hD hS hl)
theorem g_lrem {Z : ZT} {X : XT} {cc : ByteArray} {own : String} {nL : Nat} {R : Room} {pc pc' : Nat} {L : List (Option Value)} {S : List Value} {w : va_W} {x y : Int64} (h : OK Z X cc own nL R) (hd : decode cc pc = .ok (.lrem, 1)) (hne : ¬ y = 0) (hp : pc + 1 = pc') (k : GG Z X pc' L (.long (x - x / y * y) :: S) w) : GG Z X pc L (.long y :: .long x :: S) w := by
  obtain ⟨p, l, e, R0, s, m, args, below, meth, c, ce, sl, nL', A, Q⟩ := X
  obtain ⟨⟨hx, hb, hml⟩, hown, hts, hlk, hK, hST, hA, rfl, rfl, hce, hsl⟩ := h
  subst hp
  intro H locs ls hP hD hS hl
  exact lv_lrem hx hb hd hne (k H locs ls hP hD hS hl)
theorem g_ineg {Z : ZT} {X : XT} {cc : ByteArray} {own : String} {nL : Nat} {R : Room} {pc pc' : Nat} {L : List (Option Value)} {S : List Value} {w : va_W} {x v : Int32} (h : OK Z X cc own nL R) (hd : decode cc pc = .ok (.ineg, 1)) (hv : -x = v) (hp : pc + 1 = pc') (k : GG Z X pc' L (.int v :: S) w) : GG Z X pc L (.int x :: S) w := by
  obtain ⟨p, l, e, R0, s, m, args, below, meth, c, ce, sl, nL', A, Q⟩ := X
  obtain ⟨⟨hx, hb, hml⟩, hown, hts, hlk, hK, hST, hA, rfl, rfl, hce, hsl⟩ := h
  subst hp
  intro H locs ls hP hD hS hl
  subst hv; exact lv_ineg hx hb hd (k H locs ls hP hD hS hl)
theorem g_lneg {Z : ZT} {X : XT} {cc : ByteArray} {own : String} {nL : Nat} {R : Room} {pc pc' : Nat} {L : List (Option Value)} {S : List Value} {w : va_W} {x v : Int64} (h : OK Z X cc own nL R) (hd : decode cc pc = .ok (.lneg, 1)) (hv : -x = v) (hp : pc + 1 = pc') (k : GG Z X pc' L (.long v :: S) w) : GG Z X pc L (.long x :: S) w := by
  obtain ⟨p, l, e, R0, s, m, args, below, meth, c, ce, sl, nL', A, Q⟩ := X
  obtain ⟨⟨hx, hb, hml⟩, hown, hts, hlk, hK, hST, hA, rfl, rfl, hce, hsl⟩ := h
  subst hp
  intro H locs ls hP hD hS hl
  subst hv; exact lv_lneg hx hb hd (k H locs ls hP hD hS hl)
theorem g_i2l {Z : ZT} {X : XT} {cc : ByteArray} {own : String} {nL : Nat} {R : Room} {pc pc' : Nat} {L : List (Option Value)} {S : List Value} {w : va_W} {x : Int32} (h : OK Z X cc own nL R) (hd : decode cc pc = .ok (.i2l, 1))  (hp : pc + 1 = pc') (k : GG Z X pc' L (.long x.toInt64 :: S) w) : GG Z X pc L (.int x :: S) w := by
  obtain ⟨p, l, e, R0, s, m, args, below, meth, c, ce, sl, nL', A, Q⟩ := X
  obtain ⟨⟨hx, hb, hml⟩, hown, hts, hlk, hK, hST, hA, rfl, rfl, hce, hsl⟩ := h
  subst hp
  intro H locs ls hP hD hS hl
  exact lv_i2l hx hb hd rfl (k H locs ls hP hD hS hl)
theorem g_l2i {Z : ZT} {X : XT} {cc : ByteArray} {own : String} {nL : Nat} {R : Room} {pc pc' : Nat} {L : List (Option Value)} {S : List Value} {w : va_W} {x : Int64} (h : OK Z X cc own nL R) (hd : decode cc pc = .ok (.l2i, 1))  (hp : pc + 1 = pc') (k : GG Z X pc' L (.int x.toInt32 :: S) w) : GG Z X pc L (.long x :: S) w := by
  obtain ⟨p, l, e, R0, s, m, args, below, meth, c, ce, sl, nL', A, Q⟩ := X
  obtain ⟨⟨hx, hb, hml⟩, hown, hts, hlk, hK, hST, hA, rfl, rfl, hce, hsl⟩ := h
  subst hp
  intro H locs ls hP hD hS hl
  exact lv_l2i hx hb hd rfl (k H locs ls hP hD hS hl)
theorem g_lcmp {Z : ZT} {X : XT} {cc : ByteArray} {own : String} {nL : Nat} {R : Room} {pc pc' : Nat} {L : List (Option Value)} {S : List Value} {w : va_W} {x y : Int64} (h : OK Z X cc own nL R) (hd : decode cc pc = .ok (.lcmp, 1))  (hp : pc + 1 = pc') (k : GG Z X pc' L (.int (lg_cmp x y) :: S) w) : GG Z X pc L (.long y :: .long x :: S) w := by
  obtain ⟨p, l, e, R0, s, m, args, below, meth, c, ce, sl, nL', A, Q⟩ := X
  obtain ⟨⟨hx, hb, hml⟩, hown, hts, hlk, hK, hST, hA, rfl, rfl, hce, hsl⟩ := h
  subst hp
  intro H locs ls hP hD hS hl
  exact W.lcmp hx hb hd (k H locs ls hP hD hS hl)
theorem g_iaddN {Z : ZT} {X : XT} {cc : ByteArray} {own : String} {nL : Nat} {R : Room} {pc pc' : Nat} {L : List (Option Value)} {S : List Value} {w : va_W} {a b : Nat} (h : OK Z X cc own nL R) (hd : decode cc pc = .ok (.iadd, 1))  (hp : pc + 1 = pc') (k : GG Z X pc' L (.int (nI (a + b)) :: S) w) : GG Z X pc L (.int (nI b) :: .int (nI a) :: S) w := by
  obtain ⟨p, l, e, R0, s, m, args, below, meth, c, ce, sl, nL', A, Q⟩ := X
  obtain ⟨⟨hx, hb, hml⟩, hown, hts, hlk, hK, hST, hA, rfl, rfl, hce, hsl⟩ := h
  subst hp
  intro H locs ls hP hD hS hl
  exact lv_iadd hx hb hd (by rw [nI_add]; exact k H locs ls hP hD hS hl)
theorem g_imulN {Z : ZT} {X : XT} {cc : ByteArray} {own : String} {nL : Nat} {R : Room} {pc pc' : Nat} {L : List (Option Value)} {S : List Value} {w : va_W} {a b : Nat} (h : OK Z X cc own nL R) (hd : decode cc pc = .ok (.imul, 1))  (hp : pc + 1 = pc') (k : GG Z X pc' L (.int (nI (a * b)) :: S) w) : GG Z X pc L (.int (nI b) :: .int (nI a) :: S) w := by
  obtain ⟨p, l, e, R0, s, m, args, below, meth, c, ce, sl, nL', A, Q⟩ := X
  obtain ⟨⟨hx, hb, hml⟩, hown, hts, hlk, hK, hST, hA, rfl, rfl, hce, hsl⟩ := h
  subst hp
  intro H locs ls hP hD hS hl
  exact lv_imul hx hb hd (by rw [pk_mul]; exact k H locs ls hP hD hS hl)
theorem g_isubN {Z : ZT} {X : XT} {cc : ByteArray} {own : String} {nL : Nat} {R : Room} {pc pc' : Nat} {L : List (Option Value)} {S : List Value} {w : va_W} {a b : Nat} (h : OK Z X cc own nL R) (hd : decode cc pc = .ok (.isub, 1)) (hba : b ≤ a) (hp : pc + 1 = pc') (k : GG Z X pc' L (.int (nI (a - b)) :: S) w) : GG Z X pc L (.int (nI b) :: .int (nI a) :: S) w := by
  obtain ⟨p, l, e, R0, s, m, args, below, meth, c, ce, sl, nL', A, Q⟩ := X
  obtain ⟨⟨hx, hb, hml⟩, hown, hts, hlk, hK, hST, hA, rfl, rfl, hce, hsl⟩ := h
  subst hp
  intro H locs ls hP hD hS hl
  exact lv_isub hx hb hd (by rw [pk_sub hba]; exact k H locs ls hP hD hS hl)
theorem g_idivN {Z : ZT} {X : XT} {cc : ByteArray} {own : String} {nL : Nat} {R : Room} {pc pc' : Nat} {L : List (Option Value)} {S : List Value} {w : va_W} {a b : Nat} (h : OK Z X cc own nL R) (hd : decode cc pc = .ok (.idiv, 1)) (ha : a < 2 ^ 31) (h0 : 0 < b) (hb1 : b < 2 ^ 31) (hp : pc + 1 = pc') (k : GG Z X pc' L (.int (nI (a / b)) :: S) w) : GG Z X pc L (.int (nI b) :: .int (nI a) :: S) w := by
  obtain ⟨p, l, e, R0, s, m, args, below, meth, c, ce, sl, nL', A, Q⟩ := X
  obtain ⟨⟨hx, hb, hml⟩, hown, hts, hlk, hK, hST, hA, rfl, rfl, hce, hsl⟩ := h
  subst hp
  intro H locs ls hP hD hS hl
  exact lv_idiv hx hb hd (fun q => absurd q (nI_ne0 h0 hb1)) (by rw [pk_div ha h0 hb1]; exact k H locs ls hP hD hS hl)
theorem g_iremN {Z : ZT} {X : XT} {cc : ByteArray} {own : String} {nL : Nat} {R : Room} {pc pc' : Nat} {L : List (Option Value)} {S : List Value} {w : va_W} {a b : Nat} (h : OK Z X cc own nL R) (hd : decode cc pc = .ok (.irem, 1)) (ha : a < 2 ^ 31) (h0 : 0 < b) (hb1 : b < 2 ^ 31) (hp : pc + 1 = pc') (k : GG Z X pc' L (.int (nI (a % b)) :: S) w) : GG Z X pc L (.int (nI b) :: .int (nI a) :: S) w := by
  obtain ⟨p, l, e, R0, s, m, args, below, meth, c, ce, sl, nL', A, Q⟩ := X
  obtain ⟨⟨hx, hb, hml⟩, hown, hts, hlk, hK, hST, hA, rfl, rfl, hce, hsl⟩ := h
  subst hp
  intro H locs ls hP hD hS hl
  exact lv_irem hx hb hd (fun q => absurd q (nI_ne0 h0 hb1)) (by rw [pk_rem ha h0 hb1]; exact k H locs ls hP hD hS hl)
theorem g_dupI {Z : ZT} {X : XT} {cc : ByteArray} {own : String} {nL : Nat} {R : Room} {pc pc' : Nat} {L : List (Option Value)} {S : List Value} {w : va_W} {x : Int32} (h : OK Z X cc own nL R) (hd : decode cc pc = .ok (.dup, 1))  (hp : pc + 1 = pc') (k : GG Z X pc' L (.int x :: .int x :: S) w) : GG Z X pc L (.int x :: S) w := by
  obtain ⟨p, l, e, R0, s, m, args, below, meth, c, ce, sl, nL', A, Q⟩ := X
  obtain ⟨⟨hx, hb, hml⟩, hown, hts, hlk, hK, hST, hA, rfl, rfl, hce, hsl⟩ := h
  subst hp
  intro H locs ls hP hD hS hl
  exact lv_dup hx hb hd rfl (k H locs ls hP hD hS hl)
theorem g_dupR {Z : ZT} {X : XT} {cc : ByteArray} {own : String} {nL : Nat} {R : Room} {pc pc' : Nat} {L : List (Option Value)} {S : List Value} {w : va_W} {x : Nat} (h : OK Z X cc own nL R) (hd : decode cc pc = .ok (.dup, 1))  (hp : pc + 1 = pc') (k : GG Z X pc' L (.ref x :: .ref x :: S) w) : GG Z X pc L (.ref x :: S) w := by
  obtain ⟨p, l, e, R0, s, m, args, below, meth, c, ce, sl, nL', A, Q⟩ := X
  obtain ⟨⟨hx, hb, hml⟩, hown, hts, hlk, hK, hST, hA, rfl, rfl, hce, hsl⟩ := h
  subst hp
  intro H locs ls hP hD hS hl
  exact lv_dup hx hb hd rfl (k H locs ls hP hD hS hl)
theorem g_dup2 {Z : ZT} {X : XT} {cc : ByteArray} {own : String} {nL : Nat} {R : Room} {pc pc' : Nat} {L : List (Option Value)} {S : List Value} {w : va_W} {x y : Int32} {a : Nat} (h : OK Z X cc own nL R) (hd : decode cc pc = .ok (.dup2, 1))  (hp : pc + 1 = pc') (k : GG Z X pc' L (.int x :: .ref a :: .int x :: .ref a :: S) w) : GG Z X pc L (.int x :: .ref a :: S) w := by
  obtain ⟨p, l, e, R0, s, m, args, below, meth, c, ce, sl, nL', A, Q⟩ := X
  obtain ⟨⟨hx, hb, hml⟩, hown, hts, hlk, hK, hST, hA, rfl, rfl, hce, hsl⟩ := h
  subst hp
  intro H locs ls hP hD hS hl
  exact lv_dup2_11 hx hb hd rfl rfl (k H locs ls hP hD hS hl)
theorem g_goto {Z : ZT} {X : XT} {cc : ByteArray} {own : String} {nL : Nat} {R : Room} {pc pc' : Nat} {L : List (Option Value)} {S : List Value} {w : va_W} {off : Int} (h : OK Z X cc own nL R) (hd : decode cc pc = .ok (.goto off, 3)) (hp : (pc : Int) + off = (pc' : Int)) (k : GG Z X pc' L S w) : GG Z X pc L S w := by
  obtain ⟨p, l, e, R0, s, m, args, below, meth, c, ce, sl, nL', A, Q⟩ := X
  obtain ⟨⟨hx, hb, hml⟩, hown, hts, hlk, hK, hST, hA, rfl, rfl, hce, hsl⟩ := h
  intro H locs ls hP hD hS hl
  exact lv_goto hx hb hd hp (k H locs ls hP hD hS hl)
theorem g_ifnull {Z : ZT} {X : XT} {cc : ByteArray} {own : String} {nL : Nat} {R : Room} {pc pc' : Nat} {L : List (Option Value)} {S : List Value} {w : va_W} {off : Int} {x : Nat} (h : OK Z X cc own nL R) (hd : decode cc pc = .ok (.ifnull off, 3)) (hp : pc + 3 = pc') (k : GG Z X pc' L S w) : GG Z X pc L (.ref x :: S) w := by
  obtain ⟨p, l, e, R0, s, m, args, below, meth, c, ce, sl, nL', A, Q⟩ := X
  obtain ⟨⟨hx, hb, hml⟩, hown, hts, hlk, hK, hST, hA, rfl, rfl, hce, hsl⟩ := h
  subst hp
  intro H locs ls hP hD hS hl
  exact lv_ifnull hx hb hd (k H locs ls hP hD hS hl)
theorem g_if_eq {Z : ZT} {X : XT} {cc : ByteArray} {own : String} {nL : Nat} {R : Room} {pc pc' : Nat} {L : List (Option Value)} {S : List Value} {w : va_W} {x : Int32} {tg : Nat} {off : Int} (h : OK Z X cc own nL R) (hd : decode cc pc = .ok (.ifCond .eq off, 3)) (ht : (pc : Int) + off = (tg : Int)) (hp : pc + 3 = pc') (kt : x = 0 → GG Z X tg L S w) (kf : ¬ x = 0 → GG Z X pc' L S w) : GG Z X pc L (.int x :: S) w := by
  obtain ⟨p, l, e, R0, s, m, args, below, meth, c, ce, sl, nL', A, Q⟩ := X
  obtain ⟨⟨hx, hb, hml⟩, hown, hts, hlk, hK, hST, hA, rfl, rfl, hce, hsl⟩ := h
  subst hp
  intro H locs ls hP hD hS hl
  exact lv_if_eq hx hb hd ht (fun q => kt q H locs ls hP hD hS hl) (fun q => kf q H locs ls hP hD hS hl)
theorem g_if_eqT {Z : ZT} {X : XT} {cc : ByteArray} {own : String} {nL : Nat} {R : Room} {pc : Nat} {L : List (Option Value)} {S : List Value} {w : va_W} {x : Int32} {tg : Nat} {off : Int} (h : OK Z X cc own nL R) (hd : decode cc pc = .ok (.ifCond .eq off, 3)) (ht : (pc : Int) + off = (tg : Int)) (hq : x = 0) (kt : GG Z X tg L S w) : GG Z X pc L (.int x :: S) w := g_if_eq h hd ht rfl (fun _ => kt) (fun q => absurd hq q)
theorem g_if_eqF {Z : ZT} {X : XT} {cc : ByteArray} {own : String} {nL : Nat} {R : Room} {pc pc' : Nat} {L : List (Option Value)} {S : List Value} {w : va_W} {x : Int32} {tg : Nat} {off : Int} (h : OK Z X cc own nL R) (hd : decode cc pc = .ok (.ifCond .eq off, 3)) (ht : (pc : Int) + off = (tg : Int)) (hp : pc + 3 = pc') (hq : ¬ x = 0) (kf : GG Z X pc' L S w) : GG Z X pc L (.int x :: S) w := g_if_eq h hd ht hp (fun q => absurd q hq) (fun _ => kf)
theorem g_icmp_eq {Z : ZT} {X : XT} {cc : ByteArray} {own : String} {nL : Nat} {R : Room} {pc pc' : Nat} {L : List (Option Value)} {S : List Value} {w : va_W} {x y : Int32} {tg : Nat} {off : Int} (h : OK Z X cc own nL R) (hd : decode cc pc = .ok (.if_icmp .eq off, 3)) (ht : (pc : Int) + off = (tg : Int)) (hp : pc + 3 = pc') (kt : x = y → GG Z X tg L S w) (kf : ¬ x = y → GG Z X pc' L S w) : GG Z X pc L (.int y :: .int x :: S) w := by
  obtain ⟨p, l, e, R0, s, m, args, below, meth, c, ce, sl, nL', A, Q⟩ := X
  obtain ⟨⟨hx, hb, hml⟩, hown, hts, hlk, hK, hST, hA, rfl, rfl, hce, hsl⟩ := h
  subst hp
  intro H locs ls hP hD hS hl
  exact lv_icmp_eq hx hb hd ht (fun q => kt q H locs ls hP hD hS hl) (fun q => kf q H locs ls hP hD hS hl)
theorem g_icmp_eqT {Z : ZT} {X : XT} {cc : ByteArray} {own : String} {nL : Nat} {R : Room} {pc : Nat} {L : List (Option Value)} {S : List Value} {w : va_W} {x y : Int32} {tg : Nat} {off : Int} (h : OK Z X cc own nL R) (hd : decode cc pc = .ok (.if_icmp .eq off, 3)) (ht : (pc : Int) + off = (tg : Int)) (hq : x = y) (kt : GG Z X tg L S w) : GG Z X pc L (.int y :: .int x :: S) w := g_icmp_eq h hd ht rfl (fun _ => kt) (fun q => absurd hq q)
theorem g_icmp_eqF {Z : ZT} {X : XT} {cc : ByteArray} {own : String} {nL : Nat} {R : Room} {pc pc' : Nat} {L : List (Option Value)} {S : List Value} {w : va_W} {x y : Int32} {tg : Nat} {off : Int} (h : OK Z X cc own nL R) (hd : decode cc pc = .ok (.if_icmp .eq off, 3)) (ht : (pc : Int) + off = (tg : Int)) (hp : pc + 3 = pc') (hq : ¬ x = y) (kf : GG Z X pc' L S w) : GG Z X pc L (.int y :: .int x :: S) w := g_icmp_eq h hd ht hp (fun q => absurd q hq) (fun _ => kf)
theorem g_if_ne {Z : ZT} {X : XT} {cc : ByteArray} {own : String} {nL : Nat} {R : Room} {pc pc' : Nat} {L : List (Option Value)} {S : List Value} {w : va_W} {x : Int32} {tg : Nat} {off : Int} (h : OK Z X cc own nL R) (hd : decode cc pc = .ok (.ifCond .ne off, 3)) (ht : (pc : Int) + off = (tg : Int)) (hp : pc + 3 = pc') (kt : ¬ x = 0 → GG Z X tg L S w) (kf : x = 0 → GG Z X pc' L S w) : GG Z X pc L (.int x :: S) w := by
  obtain ⟨p, l, e, R0, s, m, args, below, meth, c, ce, sl, nL', A, Q⟩ := X
  obtain ⟨⟨hx, hb, hml⟩, hown, hts, hlk, hK, hST, hA, rfl, rfl, hce, hsl⟩ := h
  subst hp
  intro H locs ls hP hD hS hl
  exact lv_if_ne hx hb hd ht (fun q => kt q H locs ls hP hD hS hl) (fun q => kf q H locs ls hP hD hS hl)
theorem g_if_neT {Z : ZT} {X : XT} {cc : ByteArray} {own : String} {nL : Nat} {R : Room} {pc : Nat} {L : List (Option Value)} {S : List Value} {w : va_W} {x : Int32} {tg : Nat} {off : Int} (h : OK Z X cc own nL R) (hd : decode cc pc = .ok (.ifCond .ne off, 3)) (ht : (pc : Int) + off = (tg : Int)) (hq : ¬ x = 0) (kt : GG Z X tg L S w) : GG Z X pc L (.int x :: S) w := g_if_ne h hd ht rfl (fun _ => kt) (fun q => absurd q hq)
theorem g_if_neF {Z : ZT} {X : XT} {cc : ByteArray} {own : String} {nL : Nat} {R : Room} {pc pc' : Nat} {L : List (Option Value)} {S : List Value} {w : va_W} {x : Int32} {tg : Nat} {off : Int} (h : OK Z X cc own nL R) (hd : decode cc pc = .ok (.ifCond .ne off, 3)) (ht : (pc : Int) + off = (tg : Int)) (hp : pc + 3 = pc') (hq : x = 0) (kf : GG Z X pc' L S w) : GG Z X pc L (.int x :: S) w := g_if_ne h hd ht hp (fun q => absurd hq q) (fun _ => kf)
theorem g_icmp_ne {Z : ZT} {X : XT} {cc : ByteArray} {own : String} {nL : Nat} {R : Room} {pc pc' : Nat} {L : List (Option Value)} {S : List Value} {w : va_W} {x y : Int32} {tg : Nat} {off : Int} (h : OK Z X cc own nL R) (hd : decode cc pc = .ok (.if_icmp .ne off, 3)) (ht : (pc : Int) + off = (tg : Int)) (hp : pc + 3 = pc') (kt : ¬ x = y → GG Z X tg L S w) (kf : x = y → GG Z X pc' L S w) : GG Z X pc L (.int y :: .int x :: S) w := by
  obtain ⟨p, l, e, R0, s, m, args, below, meth, c, ce, sl, nL', A, Q⟩ := X
  obtain ⟨⟨hx, hb, hml⟩, hown, hts, hlk, hK, hST, hA, rfl, rfl, hce, hsl⟩ := h
  subst hp
  intro H locs ls hP hD hS hl
  exact lv_icmp_ne hx hb hd ht (fun q => kt q H locs ls hP hD hS hl) (fun q => kf q H locs ls hP hD hS hl)
theorem g_icmp_neT {Z : ZT} {X : XT} {cc : ByteArray} {own : String} {nL : Nat} {R : Room} {pc : Nat} {L : List (Option Value)} {S : List Value} {w : va_W} {x y : Int32} {tg : Nat} {off : Int} (h : OK Z X cc own nL R) (hd : decode cc pc = .ok (.if_icmp .ne off, 3)) (ht : (pc : Int) + off = (tg : Int)) (hq : ¬ x = y) (kt : GG Z X tg L S w) : GG Z X pc L (.int y :: .int x :: S) w := g_icmp_ne h hd ht rfl (fun _ => kt) (fun q => absurd q hq)
theorem g_icmp_neF {Z : ZT} {X : XT} {cc : ByteArray} {own : String} {nL : Nat} {R : Room} {pc pc' : Nat} {L : List (Option Value)} {S : List Value} {w : va_W} {x y : Int32} {tg : Nat} {off : Int} (h : OK Z X cc own nL R) (hd : decode cc pc = .ok (.if_icmp .ne off, 3)) (ht : (pc : Int) + off = (tg : Int)) (hp : pc + 3 = pc') (hq : x = y) (kf : GG Z X pc' L S w) : GG Z X pc L (.int y :: .int x :: S) w := g_icmp_ne h hd ht hp (fun q => absurd hq q) (fun _ => kf)
theorem g_if_lt {Z : ZT} {X : XT} {cc : ByteArray} {own : String} {nL : Nat} {R : Room} {pc pc' : Nat} {L : List (Option Value)} {S : List Value} {w : va_W} {x : Int32} {tg : Nat} {off : Int} (h : OK Z X cc own nL R) (hd : decode cc pc = .ok (.ifCond .lt off, 3)) (ht : (pc : Int) + off = (tg : Int)) (hp : pc + 3 = pc') (kt : x < 0 → GG Z X tg L S w) (kf : ¬ x < 0 → GG Z X pc' L S w) : GG Z X pc L (.int x :: S) w := by
  obtain ⟨p, l, e, R0, s, m, args, below, meth, c, ce, sl, nL', A, Q⟩ := X
  obtain ⟨⟨hx, hb, hml⟩, hown, hts, hlk, hK, hST, hA, rfl, rfl, hce, hsl⟩ := h
  subst hp
  intro H locs ls hP hD hS hl
  exact lv_if_lt hx hb hd ht (fun q => kt q H locs ls hP hD hS hl) (fun q => kf q H locs ls hP hD hS hl)
theorem g_if_ltT {Z : ZT} {X : XT} {cc : ByteArray} {own : String} {nL : Nat} {R : Room} {pc : Nat} {L : List (Option Value)} {S : List Value} {w : va_W} {x : Int32} {tg : Nat} {off : Int} (h : OK Z X cc own nL R) (hd : decode cc pc = .ok (.ifCond .lt off, 3)) (ht : (pc : Int) + off = (tg : Int)) (hq : x < 0) (kt : GG Z X tg L S w) : GG Z X pc L (.int x :: S) w := g_if_lt h hd ht rfl (fun _ => kt) (fun q => absurd hq q)
theorem g_if_ltF {Z : ZT} {X : XT} {cc : ByteArray} {own : String} {nL : Nat} {R : Room} {pc pc' : Nat} {L : List (Option Value)} {S : List Value} {w : va_W} {x : Int32} {tg : Nat} {off : Int} (h : OK Z X cc own nL R) (hd : decode cc pc = .ok (.ifCond .lt off, 3)) (ht : (pc : Int) + off = (tg : Int)) (hp : pc + 3 = pc') (hq : ¬ x < 0) (kf : GG Z X pc' L S w) : GG Z X pc L (.int x :: S) w := g_if_lt h hd ht hp (fun q => absurd q hq) (fun _ => kf)
theorem g_icmp_lt {Z : ZT} {X : XT} {cc : ByteArray} {own : String} {nL : Nat} {R : Room} {pc pc' : Nat} {L : List (Option Value)} {S : List Value} {w : va_W} {x y : Int32} {tg : Nat} {off : Int} (h : OK Z X cc own nL R) (hd : decode cc pc = .ok (.if_icmp .lt off, 3)) (ht : (pc : Int) + off = (tg : Int)) (hp : pc + 3 = pc') (kt : x < y → GG Z X tg L S w) (kf : ¬ x < y → GG Z X pc' L S w) : GG Z X pc L (.int y :: .int x :: S) w := by
  obtain ⟨p, l, e, R0, s, m, args, below, meth, c, ce, sl, nL', A, Q⟩ := X
  obtain ⟨⟨hx, hb, hml⟩, hown, hts, hlk, hK, hST, hA, rfl, rfl, hce, hsl⟩ := h
  subst hp
  intro H locs ls hP hD hS hl
  exact lv_icmp_lt hx hb hd ht (fun q => kt q H locs ls hP hD hS hl) (fun q => kf q H locs ls hP hD hS hl)
theorem g_icmp_ltT {Z : ZT} {X : XT} {cc : ByteArray} {own : String} {nL : Nat} {R : Room} {pc : Nat} {L : List (Option Value)} {S : List Value} {w : va_W} {x y : Int32} {tg : Nat} {off : Int} (h : OK Z X cc own nL R) (hd : decode cc pc = .ok (.if_icmp .lt off, 3)) (ht : (pc : Int) + off = (tg : Int)) (hq : x < y) (kt : GG Z X tg L S w) : GG Z X pc L (.int y :: .int x :: S) w := g_icmp_lt h hd ht rfl (fun _ => kt) (fun q => absurd hq q)
theorem g_icmp_ltF {Z : ZT} {X : XT} {cc : ByteArray} {own : String} {nL : Nat} {R : Room} {pc pc' : Nat} {L : List (Option Value)} {S : List Value} {w : va_W} {x y : Int32} {tg : Nat} {off : Int} (h : OK Z X cc own nL R) (hd : decode cc pc = .ok (.if_icmp .lt off, 3)) (ht : (pc : Int) + off = (tg : Int)) (hp : pc + 3 = pc') (hq : ¬ x < y) (kf : GG Z X pc' L S w) : GG Z X pc L (.int y :: .int x :: S) w := g_icmp_lt h hd ht hp (fun q => absurd q hq) (fun _ => kf)
theorem g_if_ge {Z : ZT} {X : XT} {cc : ByteArray} {own : String} {nL : Nat} {R : Room} {pc pc' : Nat} {L : List (Option Value)} {S : List Value} {w : va_W} {x : Int32} {tg : Nat} {off : Int} (h : OK Z X cc own nL R) (hd : decode cc pc = .ok (.ifCond .ge off, 3)) (ht : (pc : Int) + off = (tg : Int)) (hp : pc + 3 = pc') (kt : 0 ≤ x → GG Z X tg L S w) (kf : ¬ 0 ≤ x → GG Z X pc' L S w) : GG Z X pc L (.int x :: S) w := by
  obtain ⟨p, l, e, R0, s, m, args, below, meth, c, ce, sl, nL', A, Q⟩ := X
  obtain ⟨⟨hx, hb, hml⟩, hown, hts, hlk, hK, hST, hA, rfl, rfl, hce, hsl⟩ := h
  subst hp
  intro H locs ls hP hD hS hl
  exact lv_if_ge hx hb hd ht (fun q => kt q H locs ls hP hD hS hl) (fun q => kf q H locs ls hP hD hS hl)
theorem g_if_geT {Z : ZT} {X : XT} {cc : ByteArray} {own : String} {nL : Nat} {R : Room} {pc : Nat} {L : List (Option Value)} {S : List Value} {w : va_W} {x : Int32} {tg : Nat} {off : Int} (h : OK Z X cc own nL R) (hd : decode cc pc = .ok (.ifCond .ge off, 3)) (ht : (pc : Int) + off = (tg : Int)) (hq : 0 ≤ x) (kt : GG Z X tg L S w) : GG Z X pc L (.int x :: S) w := g_if_ge h hd ht rfl (fun _ => kt) (fun q => absurd hq q)
theorem g_if_geF {Z : ZT} {X : XT} {cc : ByteArray} {own : String} {nL : Nat} {R : Room} {pc pc' : Nat} {L : List (Option Value)} {S : List Value} {w : va_W} {x : Int32} {tg : Nat} {off : Int} (h : OK Z X cc own nL R) (hd : decode cc pc = .ok (.ifCond .ge off, 3)) (ht : (pc : Int) + off = (tg : Int)) (hp : pc + 3 = pc') (hq : ¬ 0 ≤ x) (kf : GG Z X pc' L S w) : GG Z X pc L (.int x :: S) w := g_if_ge h hd ht hp (fun q => absurd q hq) (fun _ => kf)
theorem g_icmp_ge {Z : ZT} {X : XT} {cc : ByteArray} {own : String} {nL : Nat} {R : Room} {pc pc' : Nat} {L : List (Option Value)} {S : List Value} {w : va_W} {x y : Int32} {tg : Nat} {off : Int} (h : OK Z X cc own nL R) (hd : decode cc pc = .ok (.if_icmp .ge off, 3)) (ht : (pc : Int) + off = (tg : Int)) (hp : pc + 3 = pc') (kt : y ≤ x → GG Z X tg L S w) (kf : ¬ y ≤ x → GG Z X pc' L S w) : GG Z X pc L (.int y :: .int x :: S) w := by
  obtain ⟨p, l, e, R0, s, m, args, below, meth, c, ce, sl, nL', A, Q⟩ := X
  obtain ⟨⟨hx, hb, hml⟩, hown, hts, hlk, hK, hST, hA, rfl, rfl, hce, hsl⟩ := h
  subst hp
  intro H locs ls hP hD hS hl
  exact lv_icmp_ge hx hb hd ht (fun q => kt q H locs ls hP hD hS hl) (fun q => kf q H locs ls hP hD hS hl)
theorem g_icmp_geT {Z : ZT} {X : XT} {cc : ByteArray} {own : String} {nL : Nat} {R : Room} {pc : Nat} {L : List (Option Value)} {S : List Value} {w : va_W} {x y : Int32} {tg : Nat} {off : Int} (h : OK Z X cc own nL R) (hd : decode cc pc = .ok (.if_icmp .ge off, 3)) (ht : (pc : Int) + off = (tg : Int)) (hq : y ≤ x) (kt : GG Z X tg L S w) : GG Z X pc L (.int y :: .int x :: S) w := g_icmp_ge h hd ht rfl (fun _ => kt) (fun q => absurd hq q)
theorem g_icmp_geF {Z : ZT} {X : XT} {cc : ByteArray} {own : String} {nL : Nat} {R : Room} {pc pc' : Nat} {L : List (Option Value)} {S : List Value} {w : va_W} {x y : Int32} {tg : Nat} {off : Int} (h : OK Z X cc own nL R) (hd : decode cc pc = .ok (.if_icmp .ge off, 3)) (ht : (pc : Int) + off = (tg : Int)) (hp : pc + 3 = pc') (hq : ¬ y ≤ x) (kf : GG Z X pc' L S w) : GG Z X pc L (.int y :: .int x :: S) w := g_icmp_ge h hd ht hp (fun q => absurd q hq) (fun _ => kf)
theorem g_if_gt {Z : ZT} {X : XT} {cc : ByteArray} {own : String} {nL : Nat} {R : Room} {pc pc' : Nat} {L : List (Option Value)} {S : List Value} {w : va_W} {x : Int32} {tg : Nat} {off : Int} (h : OK Z X cc own nL R) (hd : decode cc pc = .ok (.ifCond .gt off, 3)) (ht : (pc : Int) + off = (tg : Int)) (hp : pc + 3 = pc') (kt : 0 < x → GG Z X tg L S w) (kf : ¬ 0 < x → GG Z X pc' L S w) : GG Z X pc L (.int x :: S) w := by
  obtain ⟨p, l, e, R0, s, m, args, below, meth, c, ce, sl, nL', A, Q⟩ := X
  obtain ⟨⟨hx, hb, hml⟩, hown, hts, hlk, hK, hST, hA, rfl, rfl, hce, hsl⟩ := h
  subst hp
  intro H locs ls hP hD hS hl
  exact lv_if_gt hx hb hd ht (fun q => kt q H locs ls hP hD hS hl) (fun q => kf q H locs ls hP hD hS hl)
theorem g_if_gtT {Z : ZT} {X : XT} {cc : ByteArray} {own : String} {nL : Nat} {R : Room} {pc : Nat} {L : List (Option Value)} {S : List Value} {w : va_W} {x : Int32} {tg : Nat} {off : Int} (h : OK Z X cc own nL R) (hd : decode cc pc = .ok (.ifCond .gt off, 3)) (ht : (pc : Int) + off = (tg : Int)) (hq : 0 < x) (kt : GG Z X tg L S w) : GG Z X pc L (.int x :: S) w := g_if_gt h hd ht rfl (fun _ => kt) (fun q => absurd hq q)
theorem g_if_gtF {Z : ZT} {X : XT} {cc : ByteArray} {own : String} {nL : Nat} {R : Room} {pc pc' : Nat} {L : List (Option Value)} {S : List Value} {w : va_W} {x : Int32} {tg : Nat} {off : Int} (h : OK Z X cc own nL R) (hd : decode cc pc = .ok (.ifCond .gt off, 3)) (ht : (pc : Int) + off = (tg : Int)) (hp : pc + 3 = pc') (hq : ¬ 0 < x) (kf : GG Z X pc' L S w) : GG Z X pc L (.int x :: S) w := g_if_gt h hd ht hp (fun q => absurd q hq) (fun _ => kf)
theorem g_icmp_gt {Z : ZT} {X : XT} {cc : ByteArray} {own : String} {nL : Nat} {R : Room} {pc pc' : Nat} {L : List (Option Value)} {S : List Value} {w : va_W} {x y : Int32} {tg : Nat} {off : Int} (h : OK Z X cc own nL R) (hd : decode cc pc = .ok (.if_icmp .gt off, 3)) (ht : (pc : Int) + off = (tg : Int)) (hp : pc + 3 = pc') (kt : y < x → GG Z X tg L S w) (kf : ¬ y < x → GG Z X pc' L S w) : GG Z X pc L (.int y :: .int x :: S) w := by
  obtain ⟨p, l, e, R0, s, m, args, below, meth, c, ce, sl, nL', A, Q⟩ := X
  obtain ⟨⟨hx, hb, hml⟩, hown, hts, hlk, hK, hST, hA, rfl, rfl, hce, hsl⟩ := h
  subst hp
  intro H locs ls hP hD hS hl
  exact lv_icmp_gt hx hb hd ht (fun q => kt q H locs ls hP hD hS hl) (fun q => kf q H locs ls hP hD hS hl)
theorem g_icmp_gtT {Z : ZT} {X : XT} {cc : ByteArray} {own : String} {nL : Nat} {R : Room} {pc : Nat} {L : List (Option Value)} {S : List Value} {w : va_W} {x y : Int32} {tg : Nat} {off : Int} (h : OK Z X cc own nL R) (hd : decode cc pc = .ok (.if_icmp .gt off, 3)) (ht : (pc : Int) + off = (tg : Int)) (hq : y < x) (kt : GG Z X tg L S w) : GG Z X pc L (.int y :: .int x :: S) w := g_icmp_gt h hd ht rfl (fun _ => kt) (fun q => absurd hq q)
theorem g_icmp_gtF {Z : ZT} {X : XT} {cc : ByteArray} {own : String} {nL : Nat} {R : Room} {pc pc' : Nat} {L : List (Option Value)} {S : List Value} {w : va_W} {x y : Int32} {tg : Nat} {off : Int} (h : OK Z X cc own nL R) (hd : decode cc pc = .ok (.if_icmp .gt off, 3)) (ht : (pc : Int) + off = (tg : Int)) (hp : pc + 3 = pc') (hq : ¬ y < x) (kf : GG Z X pc' L S w) : GG Z X pc L (.int y :: .int x :: S) w := g_icmp_gt h hd ht hp (fun q => absurd q hq) (fun _ => kf)
theorem g_if_le {Z : ZT} {X : XT} {cc : ByteArray} {own : String} {nL : Nat} {R : Room} {pc pc' : Nat} {L : List (Option Value)} {S : List Value} {w : va_W} {x : Int32} {tg : Nat} {off : Int} (h : OK Z X cc own nL R) (hd : decode cc pc = .ok (.ifCond .le off, 3)) (ht : (pc : Int) + off = (tg : Int)) (hp : pc + 3 = pc') (kt : x ≤ 0 → GG Z X tg L S w) (kf : ¬ x ≤ 0 → GG Z X pc' L S w) : GG Z X pc L (.int x :: S) w := by
  obtain ⟨p, l, e, R0, s, m, args, below, meth, c, ce, sl, nL', A, Q⟩ := X
  obtain ⟨⟨hx, hb, hml⟩, hown, hts, hlk, hK, hST, hA, rfl, rfl, hce, hsl⟩ := h
  subst hp
  intro H locs ls hP hD hS hl
  exact lv_if_le hx hb hd ht (fun q => kt q H locs ls hP hD hS hl) (fun q => kf q H locs ls hP hD hS hl)
theorem g_if_leT {Z : ZT} {X : XT} {cc : ByteArray} {own : String} {nL : Nat} {R : Room} {pc : Nat} {L : List (Option Value)} {S : List Value} {w : va_W} {x : Int32} {tg : Nat} {off : Int} (h : OK Z X cc own nL R) (hd : decode cc pc = .ok (.ifCond .le off, 3)) (ht : (pc : Int) + off = (tg : Int)) (hq : x ≤ 0) (kt : GG Z X tg L S w) : GG Z X pc L (.int x :: S) w := g_if_le h hd ht rfl (fun _ => kt) (fun q => absurd hq q)
theorem g_if_leF {Z : ZT} {X : XT} {cc : ByteArray} {own : String} {nL : Nat} {R : Room} {pc pc' : Nat} {L : List (Option Value)} {S : List Value} {w : va_W} {x : Int32} {tg : Nat} {off : Int} (h : OK Z X cc own nL R) (hd : decode cc pc = .ok (.ifCond .le off, 3)) (ht : (pc : Int) + off = (tg : Int)) (hp : pc + 3 = pc') (hq : ¬ x ≤ 0) (kf : GG Z X pc' L S w) : GG Z X pc L (.int x :: S) w := g_if_le h hd ht hp (fun q => absurd q hq) (fun _ => kf)
theorem g_icmp_le {Z : ZT} {X : XT} {cc : ByteArray} {own : String} {nL : Nat} {R : Room} {pc pc' : Nat} {L : List (Option Value)} {S : List Value} {w : va_W} {x y : Int32} {tg : Nat} {off : Int} (h : OK Z X cc own nL R) (hd : decode cc pc = .ok (.if_icmp .le off, 3)) (ht : (pc : Int) + off = (tg : Int)) (hp : pc + 3 = pc') (kt : x ≤ y → GG Z X tg L S w) (kf : ¬ x ≤ y → GG Z X pc' L S w) : GG Z X pc L (.int y :: .int x :: S) w := by
  obtain ⟨p, l, e, R0, s, m, args, below, meth, c, ce, sl, nL', A, Q⟩ := X
  obtain ⟨⟨hx, hb, hml⟩, hown, hts, hlk, hK, hST, hA, rfl, rfl, hce, hsl⟩ := h
  subst hp
  intro H locs ls hP hD hS hl
  exact lv_icmp_le hx hb hd ht (fun q => kt q H locs ls hP hD hS hl) (fun q => kf q H locs ls hP hD hS hl)
theorem g_icmp_leT {Z : ZT} {X : XT} {cc : ByteArray} {own : String} {nL : Nat} {R : Room} {pc : Nat} {L : List (Option Value)} {S : List Value} {w : va_W} {x y : Int32} {tg : Nat} {off : Int} (h : OK Z X cc own nL R) (hd : decode cc pc = .ok (.if_icmp .le off, 3)) (ht : (pc : Int) + off = (tg : Int)) (hq : x ≤ y) (kt : GG Z X tg L S w) : GG Z X pc L (.int y :: .int x :: S) w := g_icmp_le h hd ht rfl (fun _ => kt) (fun q => absurd hq q)
theorem g_icmp_leF {Z : ZT} {X : XT} {cc : ByteArray} {own : String} {nL : Nat} {R : Room} {pc pc' : Nat} {L : List (Option Value)} {S : List Value} {w : va_W} {x y : Int32} {tg : Nat} {off : Int} (h : OK Z X cc own nL R) (hd : decode cc pc = .ok (.if_icmp .le off, 3)) (ht : (pc : Int) + off = (tg : Int)) (hp : pc + 3 = pc') (hq : ¬ x ≤ y) (kf : GG Z X pc' L S w) : GG Z X pc L (.int y :: .int x :: S) w := g_icmp_le h hd ht hp (fun q => absurd q hq) (fun _ => kf)
theorem g_lcmp_ge {Z : ZT} {X : XT} {cc : ByteArray} {own : String} {nL : Nat} {R : Room} {pc pc' : Nat} {L : List (Option Value)} {S : List Value} {w : va_W} {x y : Int64} {pc1 tg : Nat} {off : Int} (h : OK Z X cc own nL R) (hd : decode cc pc = .ok (.lcmp, 1)) (hp1 : pc + 1 = pc1) (hd1 : decode cc pc1 = .ok (.ifCond .ge off, 3)) (ht : (pc1 : Int) + off = (tg : Int)) (hp : pc1 + 3 = pc') (kt : y ≤ x → GG Z X tg L S w) (kf : ¬ y ≤ x → GG Z X pc' L S w) : GG Z X pc L (.long y :: .long x :: S) w :=
  g_lcmp h hd hp1 (g_if_ge h hd1 ht hp (fun q => kt ((lg_cmp_ge x y).mp q)) (fun q => kf (fun z => q ((lg_cmp_ge x y).mpr z))))
theorem g_lcmp_le {Z : ZT} {X : XT} {cc : ByteArray} {own : String} {nL : Nat} {R : Room} {pc pc' : Nat} {L : List (Option Value)} {S : List Value} {w : va_W} {x y : Int64} {pc1 tg : Nat} {off : Int} (h : OK Z X cc own nL R) (hd : decode cc pc = .ok (.lcmp, 1)) (hp1 : pc + 1 = pc1) (hd1 : decode cc pc1 = .ok (.ifCond .le off, 3)) (ht : (pc1 : Int) + off = (tg : Int)) (hp : pc1 + 3 = pc') (kt : x ≤ y → GG Z X tg L S w) (kf : ¬ x ≤ y → GG Z X pc' L S w) : GG Z X pc L (.long y :: .long x :: S) w :=
  g_lcmp h hd hp1 (g_if_le h hd1 ht hp (fun q => kt ((lg_cmp_le x y).mp q)) (fun q => kf (fun z => q ((lg_cmp_le x y).mpr z))))
theorem g_lcmp_gt {Z : ZT} {X : XT} {cc : ByteArray} {own : String} {nL : Nat} {R : Room} {pc pc' : Nat} {L : List (Option Value)} {S : List Value} {w : va_W} {x y : Int64} {pc1 tg : Nat} {off : Int} (h : OK Z X cc own nL R) (hd : decode cc pc = .ok (.lcmp, 1)) (hp1 : pc + 1 = pc1) (hd1 : decode cc pc1 = .ok (.ifCond .gt off, 3)) (ht : (pc1 : Int) + off = (tg : Int)) (hp : pc1 + 3 = pc') (kt : y < x → GG Z X tg L S w) (kf : ¬ y < x → GG Z X pc' L S w) : GG Z X pc L (.long y :: .long x :: S) w :=
  g_lcmp h hd hp1 (g_if_gt h hd1 ht hp (fun q => kt ((lg_cmp_gt x y).mp q)) (fun q => kf (fun z => q ((lg_cmp_gt x y).mpr z))))
theorem g_lcmp_lt {Z : ZT} {X : XT} {cc : ByteArray} {own : String} {nL : Nat} {R : Room} {pc pc' : Nat} {L : List (Option Value)} {S : List Value} {w : va_W} {x y : Int64} {pc1 tg : Nat} {off : Int} (h : OK Z X cc own nL R) (hd : decode cc pc = .ok (.lcmp, 1)) (hp1 : pc + 1 = pc1) (hd1 : decode cc pc1 = .ok (.ifCond .lt off, 3)) (ht : (pc1 : Int) + off = (tg : Int)) (hp : pc1 + 3 = pc') (kt : x < y → GG Z X tg L S w) (kf : ¬ x < y → GG Z X pc' L S w) : GG Z X pc L (.long y :: .long x :: S) w :=
  g_lcmp h hd hp1 (g_if_lt h hd1 ht hp (fun q => kt ((lg_cmp_lt x y).mp q)) (fun q => kf (fun z => q ((lg_cmp_lt x y).mpr z))))
theorem g_lcmp_eq {Z : ZT} {X : XT} {cc : ByteArray} {own : String} {nL : Nat} {R : Room} {pc pc' : Nat} {L : List (Option Value)} {S : List Value} {w : va_W} {x y : Int64} {pc1 tg : Nat} {off : Int} (h : OK Z X cc own nL R) (hd : decode cc pc = .ok (.lcmp, 1)) (hp1 : pc + 1 = pc1) (hd1 : decode cc pc1 = .ok (.ifCond .eq off, 3)) (ht : (pc1 : Int) + off = (tg : Int)) (hp : pc1 + 3 = pc') (kt : x = y → GG Z X tg L S w) (kf : ¬ x = y → GG Z X pc' L S w) : GG Z X pc L (.long y :: .long x :: S) w :=
  g_lcmp h hd hp1 (g_if_eq h hd1 ht hp (fun q => kt ((lg_cmp_eq x y).mp q)) (fun q => kf (fun z => q ((lg_cmp_eq x y).mpr z))))
theorem g_lcmp_ne {Z : ZT} {X : XT} {cc : ByteArray} {own : String} {nL : Nat} {R : Room} {pc pc' : Nat} {L : List (Option Value)} {S : List Value} {w : va_W} {x y : Int64} {pc1 tg : Nat} {off : Int} (h : OK Z X cc own nL R) (hd : decode cc pc = .ok (.lcmp, 1)) (hp1 : pc + 1 = pc1) (hd1 : decode cc pc1 = .ok (.ifCond .ne off, 3)) (ht : (pc1 : Int) + off = (tg : Int)) (hp : pc1 + 3 = pc') (kt : ¬ x = y → GG Z X tg L S w) (kf : x = y → GG Z X pc' L S w) : GG Z X pc L (.long y :: .long x :: S) w :=
  g_lcmp h hd hp1 (g_if_ne h hd1 ht hp (fun q => kt (fun z => q ((lg_cmp_eq x y).mpr z))) (fun q => kf ((lg_cmp_eq x y).mp q)))
def bI (P : Prop) [Decidable P] : Int32 := if P then 1 else 0
theorem bI_0 {P : Prop} [Decidable P] : bI P = 0 ↔ ¬ P := by unfold bI; by_cases h : P <;> simp [h]
theorem bI_1 {P : Prop} [Decidable P] (h : P) : bI P = 1 := if_pos h
theorem bI_n {P : Prop} [Decidable P] (h : ¬ P) : bI P = 0 := if_neg h
theorem bI_z (P : Prop) [Decidable P] : narrow .boolean (.int (bI P)) = .int (bI P) := by unfold bI; by_cases h : P <;> simp [h] <;> rfl
theorem g_ifb_eq {Z : ZT} {X : XT} {cc : ByteArray} {own : String} {nL : Nat} {R : Room} {pc pc' : Nat} {L : List (Option Value)} {S : List Value} {w : va_W} {P : Prop} [Decidable P] {tg : Nat} {off : Int} (h : OK Z X cc own nL R) (hd : decode cc pc = .ok (.ifCond .eq off, 3)) (ht : (pc : Int) + off = (tg : Int)) (hp : pc + 3 = pc') (kt : ¬ P → GG Z X tg L S w) (kf : P → GG Z X pc' L S w) : GG Z X pc L (.int (bI P) :: S) w := g_if_eq h hd ht hp (fun q => kt (bI_0.mp q)) (fun q => kf (Classical.byContradiction fun z => q (bI_0.mpr z)))
theorem g_ifb_ne {Z : ZT} {X : XT} {cc : ByteArray} {own : String} {nL : Nat} {R : Room} {pc pc' : Nat} {L : List (Option Value)} {S : List Value} {w : va_W} {P : Prop} [Decidable P] {tg : Nat} {off : Int} (h : OK Z X cc own nL R) (hd : decode cc pc = .ok (.ifCond .ne off, 3)) (ht : (pc : Int) + off = (tg : Int)) (hp : pc + 3 = pc') (kt : P → GG Z X tg L S w) (kf : ¬ P → GG Z X pc' L S w) : GG Z X pc L (.int (bI P) :: S) w := g_if_ne h hd ht hp (fun q => kt (Classical.byContradiction fun z => q (bI_0.mpr z))) (fun q => kf (bI_0.mp q))
theorem g_iret {Z : ZT} {X : XT} {cc : ByteArray} {own : String} {nL : Nat} {R : Room} {pc : Nat} {L : List (Option Value)} {w : va_W} {v : Option Value} {w' : va_W} {x : Int32} (h : OK Z X cc own nL R) (hr : RT Z X (some .int) v w') (hd : decode cc pc = .ok (.ireturn, 1))  (hv : v = some (.int x)) (hw : w = w') : GG Z X pc L [.int x] w := by
  subst hv
  subst hw
  obtain ⟨p, l, e, R0, s, m, args, below, meth, c, ce, sl, nL', A, Q⟩ := X
  obtain ⟨⟨hx, hb, hml⟩, hown, hts, hlk, hK, hST, hA, rfl, rfl, hce, hsl⟩ := h
  obtain ⟨hrt, rfl⟩ := hr
  intro H locs ls hP hD hS hl
  exact W.iret hx hb hrt (fun t ht hW => ⟨⟨rfl, by rw [ht]; exact hP, va_K.moved hW.alike hK, hD⟩, hS.F ht⟩) hS.2.2 hd hlk
theorem g_zret {Z : ZT} {X : XT} {cc : ByteArray} {own : String} {nL : Nat} {R : Room} {pc : Nat} {L : List (Option Value)} {w : va_W} {v : Option Value} {w' : va_W} {x : Int32} (h : OK Z X cc own nL R) (hr : RT Z X (some .boolean) v w') (hd : decode cc pc = .ok (.ireturn, 1)) (hz : narrow .boolean (.int x) = .int x) (hv : v = some (.int x)) (hw : w = w') : GG Z X pc L [.int x] w := by
  subst hv
  subst hw
  obtain ⟨p, l, e, R0, s, m, args, below, meth, c, ce, sl, nL', A, Q⟩ := X
  obtain ⟨⟨hx, hb, hml⟩, hown, hts, hlk, hK, hST, hA, rfl, rfl, hce, hsl⟩ := h
  obtain ⟨hrt, rfl⟩ := hr
  intro H locs ls hP hD hS hl
  exact W.zret hx hb hrt hz (fun t ht hW => ⟨⟨rfl, by rw [ht]; exact hP, va_K.moved hW.alike hK, hD⟩, hS.F ht⟩) hS.2.2 hd hlk
theorem g_lret {Z : ZT} {X : XT} {cc : ByteArray} {own : String} {nL : Nat} {R : Room} {pc : Nat} {L : List (Option Value)} {w : va_W} {v : Option Value} {w' : va_W} {x : Int64} (h : OK Z X cc own nL R) (hr : RT Z X (some .long) v w') (hd : decode cc pc = .ok (.lreturn, 1))  (hv : v = some (.long x)) (hw : w = w') : GG Z X pc L [.long x] w := by
  subst hv
  subst hw
  obtain ⟨p, l, e, R0, s, m, args, below, meth, c, ce, sl, nL', A, Q⟩ := X
  obtain ⟨⟨hx, hb, hml⟩, hown, hts, hlk, hK, hST, hA, rfl, rfl, hce, hsl⟩ := h
  obtain ⟨hrt, rfl⟩ := hr
  intro H locs ls hP hD hS hl
  exact W.lret hx hb hrt (fun t ht hW => ⟨⟨rfl, by rw [ht]; exact hP, va_K.moved hW.alike hK, hD⟩, hS.F ht⟩) hS.2.2 hd hlk
theorem g_vret {Z : ZT} {X : XT} {cc : ByteArray} {own : String} {nL : Nat} {R : Room} {pc : Nat} {L : List (Option Value)} {w : va_W} {v : Option Value} {w' : va_W}  (h : OK Z X cc own nL R) (hr : RT Z X none v w') (hd : decode cc pc = .ok (.return_, 1))  (hv : v = none) (hw : w = w') : GG Z X pc L [] w := by
  subst hv
  subst hw
  obtain ⟨p, l, e, R0, s, m, args, below, meth, c, ce, sl, nL', A, Q⟩ := X
  obtain ⟨⟨hx, hb, hml⟩, hown, hts, hlk, hK, hST, hA, rfl, rfl, hce, hsl⟩ := h
  obtain ⟨hrt, rfl⟩ := hr
  intro H locs ls hP hD hS hl
  exact W.vret hx hb hrt (fun t ht hW => ⟨⟨rfl, by rw [ht]; exact hP, va_K.moved hW.alike hK, hD⟩, hS.F ht⟩) hS.2.2 hd hlk
theorem GG.cast {Z : ZT} {X : XT} {pc : Nat} {L L' : List (Option Value)} {S S' : List Value} {w w' : va_W} (k : GG Z X pc L' S' w') (hL : L = L') (hS : S = S') (hw : w = w') : GG Z X pc L S w := by subst hL; subst hS; subst hw; exact k
theorem g_getf {Z : ZT} {X : XT} {cc : ByteArray} {own : String} {nL : Nat} {R : Room} {pc pc' : Nat} {L : List (Option Value)} {S : List Value} {w : va_W} {idx q0 ci N : Nat} {C : String} {T : u_T} {a : Nat} {fs : List Value} {v : Value} (kf : Nat) (hin : ∀ x ∈ u_ws C T N, x ∈ tblG) (hc : clsL[ci]? = some (C, T, N)) (hk : kf < N) (hlink : Cond.fieldLink own idx (T kf).1 (T kf).2.1 (T kf).2.2.1 ∈ tblG) (h : OK Z X cc own nL R) (hd : decode cc pc = .ok (.getfield idx, 3)) (he : w[q0]? = some (a, .inr (ci, fs))) (hv : fs[kf]? = some v) (hp : pc + 3 = pc') (k : GG Z X pc' L (v :: S) w) : GG Z X pc L (.ref a :: S) w := by
  obtain ⟨p, l, e, R0, s, m, args, below, meth, c, ce, sl, nL', A, Q⟩ := X
  obtain ⟨⟨hx, hb, hml⟩, hown, hts, hlk, hK, hST, hA, rfl, rfl, hce, hsl⟩ := h
  subst hp
  intro H locs ls hP hD hS hl
  exact va_get (D := Z.1) hx hb hts hin hown hK hP q0 he hc kf hk (hts _ hlink) (fun _ h9 => h9) hv hd (k H locs ls hP hD hS hl)
theorem g_putf {Z : ZT} {X : XT} {cc : ByteArray} {own : String} {nL : Nat} {R : Room} {pc pc' : Nat} {L : List (Option Value)} {S : List Value} {w : va_W} {idx q0 ci N : Nat} {C : String} {T : u_T} {ty0 : Nat → FieldType} {a : Nat} {fs : List Value} {v : Value} {ty : FieldType} (kf : Nat) (hin : ∀ x ∈ u_ws C T N, x ∈ tblG) (hty : ∀ k, k < N → parseFieldDescriptor (T k).2.2.1 = some (ty0 k)) (hnm : ∀ a, a < N → ∀ b, b < N → a ≠ b → (T a).2.1 ≠ (T b).2.1) (hc : clsL[ci]? = some (C, T, N)) (hk : kf < N) (hlink : Cond.fieldLink own idx (T kf).1 (T kf).2.1 (T kf).2.2.1 ∈ tblG) (hfin : (T kf).2.2.2 = false) (hpd : parseFieldDescriptor (T kf).2.2.1 = some ty) (hnar : narrow ty v = v) (hfit : fits ty v = true) (h : OK Z X cc own nL R) (hd : decode cc pc = .ok (.putfield idx, 3)) (he : w[q0]? = some (a, .inr (ci, fs))) (hl1 : kf < fs.length) (hp : pc + 3 = pc') (k : GG Z X pc' L S (w.set q0 (a, .inr (ci, fs.set kf v)))) : GG Z X pc L (v :: .ref a :: S) w := by
  obtain ⟨p, l, e, R0, s, m, args, below, meth, c, ce, sl, nL', A, Q⟩ := X
  obtain ⟨⟨hx, hb, hml⟩, hown, hts, hlk, hK, hST, hA, rfl, rfl, hce, hsl⟩ := h
  subst hp
  intro H locs ls hP hD hS hl
  exact va_put (D := Z.1) hx hb hts hin ty0 hty hnm hown hK hP hD hS q0 he hc kf hk (hts _ hlink) (fun _ h9 => h9) hfin hpd hnar hfit hl1 hd (fun H1 locs1 hP1 hD1 hS1 => k H1 locs1 ls hP1 hD1 hS1 hl)
theorem g_ial {Z : ZT} {X : XT} {cc : ByteArray} {own : String} {nL : Nat} {R : Room} {pc pc' : Nat} {L : List (Option Value)} {S : List Value} {w : va_W} {q0 a n : Nat} {f : Nat → Int32} {i : Int32} {j : Nat} (h : OK Z X cc own nL R) (hd : decode cc pc = .ok (.iaload, 1)) (he : w[q0]? = some (a, .inl (Z.2.1 0, n, .inl f))) (hi : i = nI j) (hj : j < n) (hn : n < 2 ^ 31) (hp : pc + 1 = pc') (k : GG Z X pc' L (.int (f j) :: S) w) : GG Z X pc L (.int i :: .ref a :: S) w := by
  obtain ⟨p, l, e, R0, s, m, args, below, meth, c, ce, sl, nL', A, Q⟩ := X
  obtain ⟨⟨hx, hb, hml⟩, hown, hts, hlk, hK, hST, hA, rfl, rfl, hce, hsl⟩ := h
  subst hp
  subst hi
  intro H locs ls hP hD hS hl
  have e : (nI j).toNatClampNeg = j := nI_clamp (Nat.lt_trans hj hn)
  exact va_iald (D := Z.1) hx hb hK hP q0 0 he rfl (vp_in_nI hj hn) hd (by rw [e]; exact k H locs ls hP hD hS hl)
theorem g_lal {Z : ZT} {X : XT} {cc : ByteArray} {own : String} {nL : Nat} {R : Room} {pc pc' : Nat} {L : List (Option Value)} {S : List Value} {w : va_W} {q0 a n : Nat} {f : Nat → Int64} {i : Int32} {j : Nat} (h : OK Z X cc own nL R) (hd : decode cc pc = .ok (.laload, 1)) (he : w[q0]? = some (a, .inl (Z.2.1 1, n, .inr (.inl f)))) (hi : i = nI j) (hj : j < n) (hn : n < 2 ^ 31) (hp : pc + 1 = pc') (k : GG Z X pc' L (.long (f j) :: S) w) : GG Z X pc L (.int i :: .ref a :: S) w := by
  obtain ⟨p, l, e, R0, s, m, args, below, meth, c, ce, sl, nL', A, Q⟩ := X
  obtain ⟨⟨hx, hb, hml⟩, hown, hts, hlk, hK, hST, hA, rfl, rfl, hce, hsl⟩ := h
  subst hp
  subst hi
  intro H locs ls hP hD hS hl
  have e : (nI j).toNatClampNeg = j := nI_clamp (Nat.lt_trans hj hn)
  exact va_lald (D := Z.1) hx hb hK hP q0 1 he rfl (vp_in_nI hj hn) hd (by rw [e]; exact k H locs ls hP hD hS hl)
theorem g_zal {Z : ZT} {X : XT} {cc : ByteArray} {own : String} {nL : Nat} {R : Room} {pc pc' : Nat} {L : List (Option Value)} {S : List Value} {w : va_W} {q0 a n : Nat} {f : Nat → Int32} {i : Int32} {j : Nat} (h : OK Z X cc own nL R) (hd : decode cc pc = .ok (.baload, 1)) (he : w[q0]? = some (a, .inl (Z.2.1 2, n, .inl f))) (hi : i = nI j) (hj : j < n) (hn : n < 2 ^ 31) (hp : pc + 1 = pc') (k : GG Z X pc' L (.int (f j) :: S) w) : GG Z X pc L (.int i :: .ref a :: S) w := by
  obtain ⟨p, l, e, R0, s, m, args, below, meth, c, ce, sl, nL', A, Q⟩ := X
  obtain ⟨⟨hx, hb, hml⟩, hown, hts, hlk, hK, hST, hA, rfl, rfl, hce, hsl⟩ := h
  subst hp
  subst hi
  intro H locs ls hP hD hS hl
  have e : (nI j).toNatClampNeg = j := nI_clamp (Nat.lt_trans hj hn)
  exact va_zald (D := Z.1) hx hb hK hP q0 2 he rfl (vp_in_nI hj hn) hd (by rw [e]; exact k H locs ls hP hD hS hl)
theorem g_ias {Z : ZT} {X : XT} {cc : ByteArray} {own : String} {nL : Nat} {R : Room} {pc pc' : Nat} {L : List (Option Value)} {S : List Value} {w : va_W} {q0 a n : Nat} {f : Nat → Int32} {i : Int32} {x : Int32} {j : Nat} (h : OK Z X cc own nL R) (hd : decode cc pc = .ok (.iastore, 1)) (he : w[q0]? = some (a, .inl (Z.2.1 0, n, .inl (f)))) (hi : i = nI j) (hj : j < n) (hn : n < 2 ^ 31) (hp : pc + 1 = pc') (k : GG Z X pc' L S (w.set q0 (a, .inl (Z.2.1 0, n, .inl (upd f j x))))) : GG Z X pc L (.int x :: .int i :: .ref a :: S) w := by
  obtain ⟨p, l, e, R0, s, m, args, below, meth, c, ce, sl, nL', A, Q⟩ := X
  obtain ⟨⟨hx, hb, hml⟩, hown, hts, hlk, hK, hST, hA, rfl, rfl, hce, hsl⟩ := h
  subst hp
  subst hi
  intro H locs ls hP hD hS hl
  have e : (nI j).toNatClampNeg = j := nI_clamp (Nat.lt_trans hj hn)
  refine va_iast (D := Z.1) hx hb hK hP hD hS q0 0 he rfl (vp_in_nI hj hn) hd (fun H1 locs1 hP1 hD1 hS1 => ?_)
  rw [e] at hP1 hD1
  exact k H1 locs1 ls hP1 hD1 hS1 hl
theorem g_las {Z : ZT} {X : XT} {cc : ByteArray} {own : String} {nL : Nat} {R : Room} {pc pc' : Nat} {L : List (Option Value)} {S : List Value} {w : va_W} {q0 a n : Nat} {f : Nat → Int64} {i : Int32} {x : Int64} {j : Nat} (h : OK Z X cc own nL R) (hd : decode cc pc = .ok (.lastore, 1)) (he : w[q0]? = some (a, .inl (Z.2.1 1, n, .inr (.inl (f))))) (hi : i = nI j) (hj : j < n) (hn : n < 2 ^ 31) (hp : pc + 1 = pc') (k : GG Z X pc' L S (w.set q0 (a, .inl (Z.2.1 1, n, .inr (.inl (vp_updL f j x)))))) : GG Z X pc L (.long x :: .int i :: .ref a :: S) w := by
  obtain ⟨p, l, e, R0, s, m, args, below, meth, c, ce, sl, nL', A, Q⟩ := X
  obtain ⟨⟨hx, hb, hml⟩, hown, hts, hlk, hK, hST, hA, rfl, rfl, hce, hsl⟩ := h
  subst hp
  subst hi
  intro H locs ls hP hD hS hl
  have e : (nI j).toNatClampNeg = j := nI_clamp (Nat.lt_trans hj hn)
  refine va_last (D := Z.1) hx hb hK hP hD hS q0 1 he rfl (vp_in_nI hj hn) hd (fun H1 locs1 hP1 hD1 hS1 => ?_)
  rw [e] at hP1 hD1
  exact k H1 locs1 ls hP1 hD1 hS1 hl
theorem g_zas {Z : ZT} {X : XT} {cc : ByteArray} {own : String} {nL : Nat} {R : Room} {pc pc' : Nat} {L : List (Option Value)} {S : List Value} {w : va_W} {q0 a n : Nat} {f : Nat → Int32} {i : Int32} {x : Int32} {j : Nat} (h : OK Z X cc own nL R) (hd : decode cc pc = .ok (.bastore, 1)) (he : w[q0]? = some (a, .inl (Z.2.1 2, n, .inl (f)))) (hi : i = nI j) (hj : j < n) (hn : n < 2 ^ 31) (hp : pc + 1 = pc') (k : GG Z X pc' L S (w.set q0 (a, .inl (Z.2.1 2, n, .inl (upd f j (vp_nar .boolean x)))))) : GG Z X pc L (.int x :: .int i :: .ref a :: S) w := by
  obtain ⟨p, l, e, R0, s, m, args, below, meth, c, ce, sl, nL', A, Q⟩ := X
  obtain ⟨⟨hx, hb, hml⟩, hown, hts, hlk, hK, hST, hA, rfl, rfl, hce, hsl⟩ := h
  subst hp
  subst hi
  intro H locs ls hP hD hS hl
  have e : (nI j).toNatClampNeg = j := nI_clamp (Nat.lt_trans hj hn)
  refine va_zast (D := Z.1) hx hb hK hP hD hS q0 2 he rfl (vp_in_nI hj hn) hd (fun H1 locs1 hP1 hD1 hS1 => ?_)
  rw [e] at hP1 hD1
  exact k H1 locs1 ls hP1 hD1 hS1 hl
theorem g_alen0 {Z : ZT} {X : XT} {cc : ByteArray} {own : String} {nL : Nat} {R : Room} {pc pc' : Nat} {L : List (Option Value)} {S : List Value} {w : va_W} {q0 a n : Nat} {f : _} (h : OK Z X cc own nL R) (hd : decode cc pc = .ok (.arraylength, 1)) (he : w[q0]? = some (a, .inl (Z.2.1 0, n, f))) (hp : pc + 1 = pc') (k : GG Z X pc' L (.int (nI n) :: S) w) : GG Z X pc L (.ref a :: S) w := by
  obtain ⟨p, l, e, R0, s, m, args, below, meth, c, ce, sl, nL', A, Q⟩ := X
  obtain ⟨⟨hx, hb, hml⟩, hown, hts, hlk, hK, hST, hA, rfl, rfl, hce, hsl⟩ := h
  subst hp
  intro H locs ls hP hD hS hl
  exact va_alen (D := Z.1) hx hb hK hP q0 0 he (ty := .int) rfl (v := nI n) rfl hd (k H locs ls hP hD hS hl)
theorem g_alen1 {Z : ZT} {X : XT} {cc : ByteArray} {own : String} {nL : Nat} {R : Room} {pc pc' : Nat} {L : List (Option Value)} {S : List Value} {w : va_W} {q0 a n : Nat} {f : _} (h : OK Z X cc own nL R) (hd : decode cc pc = .ok (.arraylength, 1)) (he : w[q0]? = some (a, .inl (Z.2.1 1, n, f))) (hp : pc + 1 = pc') (k : GG Z X pc' L (.int (nI n) :: S) w) : GG Z X pc L (.ref a :: S) w := by
  obtain ⟨p, l, e, R0, s, m, args, below, meth, c, ce, sl, nL', A, Q⟩ := X
  obtain ⟨⟨hx, hb, hml⟩, hown, hts, hlk, hK, hST, hA, rfl, rfl, hce, hsl⟩ := h
  subst hp
  intro H locs ls hP hD hS hl
  exact va_alen (D := Z.1) hx hb hK hP q0 1 he (ty := .long) rfl (v := nI n) rfl hd (k H locs ls hP hD hS hl)
theorem g_alen2 {Z : ZT} {X : XT} {cc : ByteArray} {own : String} {nL : Nat} {R : Room} {pc pc' : Nat} {L : List (Option Value)} {S : List Value} {w : va_W} {q0 a n : Nat} {f : _} (h : OK Z X cc own nL R) (hd : decode cc pc = .ok (.arraylength, 1)) (he : w[q0]? = some (a, .inl (Z.2.1 2, n, f))) (hp : pc + 1 = pc') (k : GG Z X pc' L (.int (nI n) :: S) w) : GG Z X pc L (.ref a :: S) w := by
  obtain ⟨p, l, e, R0, s, m, args, below, meth, c, ce, sl, nL', A, Q⟩ := X
  obtain ⟨⟨hx, hb, hml⟩, hown, hts, hlk, hK, hST, hA, rfl, rfl, hce, hsl⟩ := h
  subst hp
  intro H locs ls hP hD hS hl
  exact va_alen (D := Z.1) hx hb hK hP q0 2 he (ty := .boolean) rfl (v := nI n) rfl hd (k H locs ls hP hD hS hl)
theorem g_getAll {Z : ZT} {X : XT} {cc : ByteArray} {own : String} {nL : Nat} {R : Room} {pc pc' : Nat} {L : List (Option Value)} {S : List Value} {w : va_W} {idx : Nat} (hlink : Cond.fieldLink own idx "WhoPays$Rings" "ALL" "[I" ∈ tblG) (h : OK Z X cc own nL R) (hd : decode cc pc = .ok (.getstatic idx, 3)) (hp : pc + 3 = pc') (k : GG Z X pc' L (.ref (Z.2.2 21) :: S) w) : GG Z X pc L S w := by
  obtain ⟨p, l, e, R0, s, m, args, below, meth, c, ce, sl, nL', A, Q⟩ := X
  obtain ⟨⟨hx, hb, hml⟩, hown, hts, hlk, hK, hST, hA, rfl, rfl, hce, hsl⟩ := h
  subst hp
  intro H locs ls hP hD hS hl
  exact va_gets hx hb hST.1 hS hown (hts _ hlink) (fun _ h9 => h9) hd (k H locs ls hP hD hS hl)
theorem g_ialAll {Z : ZT} {X : XT} {cc : ByteArray} {own : String} {nL : Nat} {R : Room} {pc pc' : Nat} {L : List (Option Value)} {S : List Value} {w : va_W} {i : Int32} {j : Nat} (h : OK Z X cc own nL R) (hd : decode cc pc = .ok (.iaload, 1)) (hi : i = nI j) (hj : j < 20) (hp : pc + 1 = pc') (k : GG Z X pc' L (.int (allR j) :: S) w) : GG Z X pc L (.int i :: .ref (Z.2.2 21) :: S) w := by
  obtain ⟨p, l, e, R0, s, m, args, below, meth, c, ce, sl, nL', A, Q⟩ := X
  obtain ⟨⟨hx, hb, hml⟩, hown, hts, hlk, hK, hST, hA, rfl, rfl, hce, hsl⟩ := h
  subst hp
  subst hi
  intro H locs ls hP hD hS hl
  have e : (nI j).toNatClampNeg = j := nI_clamp (Nat.lt_trans hj (by decide))
  exact va_ti hx hb hST.2.1 hS (vp_in_nI hj (by decide)) (v := .int (allR j)) (by rw [e]) hd (k H locs ls hP hD hS hl)
theorem g_alenAll {Z : ZT} {X : XT} {cc : ByteArray} {own : String} {nL : Nat} {R : Room} {pc pc' : Nat} {L : List (Option Value)} {S : List Value} {w : va_W} (h : OK Z X cc own nL R) (hd : decode cc pc = .ok (.arraylength, 1)) (hp : pc + 1 = pc') (k : GG Z X pc' L (.int (nI 20) :: S) w) : GG Z X pc L (.ref (Z.2.2 21) :: S) w := by
  obtain ⟨p, l, e, R0, s, m, args, below, meth, c, ce, sl, nL', A, Q⟩ := X
  obtain ⟨⟨hx, hb, hml⟩, hown, hts, hlk, hK, hST, hA, rfl, rfl, hce, hsl⟩ := h
  subst hp
  intro H locs ls hP hD hS hl
  obtain ⟨cell, h1, h2, h3, h4, h5, h6, h7⟩ := hST.2.1
  exact W.alen (n := nI 20) hx hb (by rw [hS.2.1 _ (Array.getElem?_eq_some_iff.mp h1).1 h7]; exact h1) h2 h5 rfl rfl hd (k H locs ls hP hD hS hl)
theorem g_mmax {Z : ZT} {X : XT} {cc : ByteArray} {own : String} {nL : Nat} {R : Room} {pc pc' : Nat} {L : List (Option Value)} {S : List Value} {w : va_W} {idx : Nat} {x y : Int32} (hlink : Cond.methodLink own idx Lib.Math.max.name ∈ tblG) (hst : Cond.static Lib.Math.max.name ∈ tblG) (hin : Cond.initialized "java/lang/Math" ∈ tblG) (hco : Cond.code Lib.Math.max.name Lib.Math.max.code 2 (some .int) ∈ tblG) (h : OK Z X cc own nL R) (hd : decode cc pc = .ok (.invokestatic idx, 3)) (hfr : 1 ≤ R.frames ∧ 21 ≤ R.locals) (h8 : (S.map fun v => v.category).sum ≤ 8) (hp : pc + 3 = pc') (k : GG Z X pc' L (.int (if x < y then y else x) :: S) w) : GG Z X pc L (.int y :: .int x :: S) w := by
  obtain ⟨p, l, e, R0, s, m, args, below, meth, c, ce, sl, nL', A, Q⟩ := X
  obtain ⟨⟨hx, hb, hml⟩, hown, hts, hlk, hK, hST, hA, rfl, rfl, hce, hsl⟩ := h
  subst hp
  intro H locs ls hP hD hS hl
  exact va_mmax hx hb (hml.trans hl.1.symm) hown (hts _ hlink) (hts _ hst) (hts _ hin) (hts _ hco) hfr.1 (by omega) hce hsl hd (k H locs ls hP hD hS hl)
theorem g_mmin {Z : ZT} {X : XT} {cc : ByteArray} {own : String} {nL : Nat} {R : Room} {pc pc' : Nat} {L : List (Option Value)} {S : List Value} {w : va_W} {idx : Nat} {x y : Int32} (hlink : Cond.methodLink own idx Lib.Math.min.name ∈ tblG) (hst : Cond.static Lib.Math.min.name ∈ tblG) (hin : Cond.initialized "java/lang/Math" ∈ tblG) (hco : Cond.code Lib.Math.min.name Lib.Math.min.code 2 (some .int) ∈ tblG) (h : OK Z X cc own nL R) (hd : decode cc pc = .ok (.invokestatic idx, 3)) (hfr : 1 ≤ R.frames ∧ 21 ≤ R.locals) (h8 : (S.map fun v => v.category).sum ≤ 8) (hp : pc + 3 = pc') (k : GG Z X pc' L (.int (if y < x then y else x) :: S) w) : GG Z X pc L (.int y :: .int x :: S) w := by
  obtain ⟨p, l, e, R0, s, m, args, below, meth, c, ce, sl, nL', A, Q⟩ := X
  obtain ⟨⟨hx, hb, hml⟩, hown, hts, hlk, hK, hST, hA, rfl, rfl, hce, hsl⟩ := h
  subst hp
  intro H locs ls hP hD hS hl
  exact va_mmin hx hb (hml.trans hl.1.symm) hown (hts _ hlink) (hts _ hst) (hts _ hin) (hts _ hco) hfr.1 (by omega) hce hsl hd (k H locs ls hP hD hS hl)
theorem g_mabs {Z : ZT} {X : XT} {cc : ByteArray} {own : String} {nL : Nat} {R : Room} {pc pc' : Nat} {L : List (Option Value)} {S : List Value} {w : va_W} {idx : Nat} {x : Int64} (hlink : Cond.methodLink own idx Lib.MathLoose.abs_long.x ∈ tblG) (hst : Cond.static Lib.MathLoose.abs_long.x ∈ tblG) (hin : Cond.initialized "java/lang/Math" ∈ tblG) (hco : Cond.code Lib.MathLoose.abs_long.x Lib.MathLoose.abs_long.code 2 (some .long) ∈ tblG) (h : OK Z X cc own nL R) (hd : decode cc pc = .ok (.invokestatic idx, 3)) (hfr : 1 ≤ R.frames ∧ 21 ≤ R.locals) (h8 : (S.map fun v => v.category).sum ≤ 8) (hp : pc + 3 = pc') (k : GG Z X pc' L (.long (if 0 < x then x else -x) :: S) w) : GG Z X pc L (.long x :: S) w := by
  obtain ⟨p, l, e, R0, s, m, args, below, meth, c, ce, sl, nL', A, Q⟩ := X
  obtain ⟨⟨hx, hb, hml⟩, hown, hts, hlk, hK, hST, hA, rfl, rfl, hce, hsl⟩ := h
  subst hp
  intro H locs ls hP hD hS hl
  exact va_mabs_long hx hb (hml.trans hl.1.symm) hown (hts _ hlink) (hts _ hst) (hts _ hin) (hts _ hco) hfr.1 (by omega) hce hsl hd (k H locs ls hP hD hS hl)
end
section
section CG
variable {p : Program} {l : Launch} {e : Env} {R : Room} {s : State} {m : MethodId} {args : Array Value} {below : List Frame} {meth : Method} {c : Code} {H : Heap} {locs : List Loc} {ce sl : Nat} {Q : State → Prop}
theorem call_go {Z : ZT} {pc : Nat} {ls : Array Slot} {rest st0 : List Value} {a : Array Value} {A : Nat → Prop} {v : Option Value} {w1 w1' : va_W} (hr : va_Run p l e R s m args below meth c H locs ce sl 0 0 (F0 m pc ls st0) rest (mQ Z v w1' (va_A w1 H.size) a) (va_A w1 H.size)) (hS : va_S A s.heap H locs) (hA : ∀ q, va_A w1 H.size q → A q)
    (kk : ∀ (H1 : Heap) (locs1 : List Loc), va_P Z.1 clsL w1' H1 → va_D (va_A w1 H.size) w1' → (∀ q : Nat, q < H.size → ¬ va_A w1 H.size q → H1[q]? = H[q]?) → va_S A s.heap H1 locs1 → W p l e R s m args below meth c H1 locs1 ce sl Q (F0 m (pc + 3) ls (v.toList ++ rest))) : W p l e R s m args below meth c H locs ce sl Q (F0 m pc ls st0) := by
  intro T hT X
  obtain ⟨v0, st₀, t, T', L, h0, X', hL, e1, e2, ⟨⟨hv, hP1, hK1, hD1⟩, hz, hk⟩, st⟩ := hr T hT X
  cases hv
  rw [h0] at hz hk
  obtain ⟨t2, a1, b1⟩ := kk T'.heap (locs ++ L) (by rw [e1]; exact hP1) hD1 (fun q h1 h2 => by rw [e1]; exact hk q h1 h2)
    ⟨Nat.le_trans hS.1 (by rw [e1]; exact hz), fun q h1 h2 => by rw [e1, hk q (Nat.lt_of_lt_of_le h1 hS.1) (fun z => h2 (hA q z))]; exact hS.2.1 q h1 h2, fun q hq => by
      rcases List.mem_append.mp hq with h | h
      · exact hS.2.2 q h
      · exact hA _ (hL q h)⟩ T' rfl X'
  exact ⟨t2, st t2 a1, b1⟩
end CG
/-- the tables' words of a call -/
def CF (k : Nat) (own : String) (index : Nat) (y : MethodName) (bytes : ByteArray) (maxL : Nat) (ret : Option FieldType) (n : Nat) : Prop :=
  (match k with
    | 0 => Cond.methodLink own index y ∈ tblG ∧ Cond.instanceMethod y ∈ tblG ∧ Cond.selects y.cls y y ∈ tblG
    | 1 => Cond.methodLink own index y ∈ tblG ∧ Cond.static y ∈ tblG
    | _ => (own, index, y) ∈ nestL ∧ Cond.static y ∈ tblG) ∧
  Cond.initialized y.cls ∈ tblG ∧ Cond.code y bytes maxL ret ∈ tblG ∧ (y.cls ≠ "java/lang/invoke/MethodHandle" ∧ y.cls ≠ "java/lang/invoke/VarHandle") ∧ (parseMethodDescriptor y.desc).map (fun d => d.parameters.length) = some n
theorem num_par {y : MethodName} {n : Nat} (h : (parseMethodDescriptor y.desc).map (fun d => d.parameters.length) = some n) : ∀ sig, parseMethodDescriptor y.desc = some sig → n = sig.parameters.length := by
  intro sig hs
  rw [hs] at h
  exact (Option.some.inj h).symm
/-- the callee's world at a call, out of the caller's -/
theorem zST.at {Z : ZT} {A B : Nat → Prop} {s U : State} {H : Heap} {locs : List Loc} (hz : zST Z A s s.heap) (hS : va_S A s.heap H locs) (hU : U.heap = H) (hW : s.WarmedH U.vm) (hAB : ∀ q, B q → A q) : zST Z B U U.heap := by
  subst hU
  have hq : ∀ a : Nat, a < s.heap.size → ¬ A a → U.heap[a]? = s.heap[a]? := fun a h1 h2 => hS.2.1 a h1 h2
  exact ⟨((va_Z.moved hW.alike hz.1).kept hq).narrow hAB, ((va_T.moved hW.alike hz.2.1).kept hq).narrow hAB, fun q h => va_Nw.warmM hW (hz.2.2 q h)⟩
theorem va_A_mid {A : Nat → Prop} {w0 w1 w2 : va_W} {H0 H : Heap} {locs : List Loc} (hD : va_D A (w0 ++ (w1 ++ w2))) (hS : va_S A H0 H locs) (hA : ∀ q, H0.size ≤ q → A q) : ∀ q, va_A w1 H.size q → A q := by
  intro q h
  rcases h with ⟨k, e, h⟩ | h
  · have hlt : k < w1.length := (List.getElem?_eq_some_iff.mp h).1
    have : (w0 ++ (w1 ++ w2))[w0.length + k]? = some (q, e) := by
      rw [List.getElem?_append_right (by omega), Nat.add_sub_cancel_left, List.getElem?_append_left hlt]
      exact h
    exact hD.2 _ _ this
  · exact hA q (Nat.le_trans hS.1 h)
theorem mid_P {D : va_G} {cl : List vw_C} {w0 w1 w2 : va_W} {H : Heap} (hP : va_P D cl (w0 ++ (w1 ++ w2)) H) : va_P D cl w1 H := fun k q hq => by
  have hlt : k < w1.length := (List.getElem?_eq_some_iff.mp hq).1
  refine hP (w0.length + k) q ?_
  rw [List.getElem?_append_right (by omega), Nat.add_sub_cancel_left, List.getElem?_append_left hlt]
  exact hq
theorem mid_D {A : Nat → Prop} {w0 w1 w2 : va_W} (hD : va_D A (w0 ++ (w1 ++ w2))) : va_D A w1 := by
  have key : ∀ (k : Nat) (q : Nat × va_E), w1[k]? = some q → (w0 ++ (w1 ++ w2))[w0.length + k]? = some q := fun k q hq => by
    have hlt : k < w1.length := (List.getElem?_eq_some_iff.mp hq).1
    rw [List.getElem?_append_right (by omega), Nat.add_sub_cancel_left, List.getElem?_append_left hlt]
    exact hq
  refine ⟨fun i j p q hp hq h => ?_, fun k q hq => hD.2 _ q (key k q hq)⟩
  have := hD.1 _ _ p q (key i p hp) (key j q hq) h
  omega
/-- behind the call: the callee's new world in the middle of the caller's, the rest as it was -/
theorem mid_join {A : Nat → Prop} {D : va_G} {cl : List vw_C} {w0 w1 w2 w1' : va_W} {H H1 : Heap} (hP : va_P D cl (w0 ++ (w1 ++ w2)) H) (hD : va_D A (w0 ++ (w1 ++ w2))) (hk : ∀ q : Nat, q < H.size → ¬ va_A w1 H.size q → H1[q]? = H[q]?) (hA : ∀ q, va_A w1 H.size q → A q)
    (hP1 : va_P D cl w1' H1) (hD1 : va_D (va_A w1 H.size) w1') : va_P D cl (w0 ++ (w1' ++ w2)) H1 ∧ va_D A (w0 ++ (w1' ++ w2)) := by
  have k1 : ∀ (k : Nat) (q : Nat × va_E), w1[k]? = some q → (w0 ++ (w1 ++ w2))[w0.length + k]? = some q := fun k q hq => by
    have hlt : k < w1.length := (List.getElem?_eq_some_iff.mp hq).1
    rw [List.getElem?_append_right (by omega), Nat.add_sub_cancel_left, List.getElem?_append_left hlt]
    exact hq
  have k0 : ∀ (k : Nat) (q : Nat × va_E), w0[k]? = some q → (w0 ++ (w1 ++ w2))[k]? = some q := fun k q hq => by
    have hlt : k < w0.length := (List.getElem?_eq_some_iff.mp hq).1
    rw [List.getElem?_append_left hlt]
    exact hq
  have k2 : ∀ (k : Nat) (q : Nat × va_E), w2[k]? = some q → (w0 ++ (w1 ++ w2))[w0.length + (w1.length + k)]? = some q := fun k q hq => by
    rw [List.getElem?_append_right (by omega), Nat.add_sub_cancel_left, List.getElem?_append_right (by omega), Nat.add_sub_cancel_left]
    exact hq
  have ap : ∀ (i : Nat) (q : Nat × va_E), (w0 ++ (w1 ++ w2))[i]? = some q → (i < w0.length ∨ w0.length + w1.length ≤ i) → q.1 < H.size ∧ ¬ va_A w1 H.size q.1 := by
    intro i q hq hi
    have hl := (hP i q hq).lt
    refine ⟨hl, fun h => ?_⟩
    rcases h with ⟨k, e, h⟩ | h
    · have hlt : k < w1.length := (List.getElem?_eq_some_iff.mp h).1
      have := hD.1 i (w0.length + k) q (q.1, e) hq (k1 k _ h) rfl
      omega
    · omega
  have a0 : ∀ (k : Nat) (q : Nat × va_E), w0[k]? = some q → q.1 < H.size ∧ ¬ va_A w1 H.size q.1 := fun k q hq => ap k q (k0 k q hq) (Or.inl (List.getElem?_eq_some_iff.mp hq).1)
  have a2 : ∀ (k : Nat) (q : Nat × va_E), w2[k]? = some q → q.1 < H.size ∧ ¬ va_A w1 H.size q.1 := fun k q hq => ap _ q (k2 k q hq) (Or.inr (by omega))
  have P0 : va_P D cl w0 H1 := fun k q hq => (hP _ q (k0 k q hq)).kept (hk q.1 (a0 k q hq).1 (a0 k q hq).2)
  have P2 : va_P D cl w2 H1 := fun k q hq => (hP _ q (k2 k q hq)).kept (hk q.1 (a2 k q hq).1 (a2 k q hq).2)
  have D0 : va_D A w0 := ⟨fun i j p q hp hq h => hD.1 i j p q (k0 i p hp) (k0 j q hq) h, fun k q hq => hD.2 k q (k0 k q hq)⟩
  have D2 : va_D A w2 := ⟨fun i j p q hp hq h => by have := hD.1 _ _ p q (k2 i p hp) (k2 j q hq) h; omega, fun k q hq => hD.2 _ q (k2 k q hq)⟩
  refine ⟨P0.app (hP1.app P2), D0.app ((hD1.weaken (fun k q _ h => hA q.1 h)).app D2 (fun i j x y hx hy hxy => (a2 j y hy).2 (hxy ▸ hD1.2 i x hx))) (fun i j x y hx hy hxy => ?_)⟩
  rcases List.mem_append.mp (List.mem_of_getElem? hy) with h | h
  · obtain ⟨j', hj'⟩ := List.getElem?_of_mem h
    exact (a0 i x hx).2 (hxy ▸ hD1.2 j' y hj')
  · obtain ⟨j', hj'⟩ := List.getElem?_of_mem h
    have := hD.1 _ _ x y (k0 i x hx) (k2 j' y hj') hxy
    have := (List.getElem?_eq_some_iff.mp hx).1
    omega
theorem g_callM {Z : ZT} {X : XT} {cc : ByteArray} {own : String} {nL : Nat} {R : Room} {pc pc' : Nat} {L : List (Option Value)} {S rest : List Value} {w0 w1 w2 w1' : va_W} {y : MethodName} {bytes : ByteArray} {maxL d n index q0 ci : Nat} {ret : Option FieldType} {b : Nat} {As : List Value} {v : Option Value} {q : vw_C} {fs : List Value}
    (h : OK Z X cc own nL R) (hd : decode cc pc = .ok (.invokevirtual index, 3)) (cf : CF 0 own index y bytes maxL ret n) (hM : MM Z y bytes maxL ret d (.ref b :: As) w1 v w1')
    (hq : w1[q0]? = some (b, .inr (ci, fs))) (hc : clsL[ci]? = some q) (hqc : q.1 = y.cls) (hn : As.length = n) (hR : d + 1 ≤ R.frames ∧ 8 + (maxL + 11) + 30 * d ≤ R.locals) (hst : S = As.reverse ++ .ref b :: rest) (h8 : (rest.map fun v => v.category).sum ≤ 8) (hp : pc + 3 = pc')
    (k : GG Z X pc' L (v.toList ++ rest) (w0 ++ (w1' ++ w2))) : GG Z X pc L S (w0 ++ (w1 ++ w2)) := by
  obtain ⟨p, l, e, R0, s, m, args, below, meth, c, ce, sl, nL', A, Q⟩ := X
  obtain ⟨⟨hx, hb, hml⟩, hown, hts, hlk, hK, hST, hA, rfl, rfl, hce, hsl⟩ := h
  subst hp
  subst hst
  intro H locs ls hP hD hS hl
  obtain ⟨⟨hlink, hinst, hsel⟩, hini, hco, hy, hnp⟩ := cf
  have hAm := va_A_mid hD hS hA
  obtain ⟨cellB, r1, r2, r3⟩ := va_recv hK (mid_P hP) hc hq
  rw [hqc] at r3
  refine call_go (v := v) (w1 := w1) (w1' := w1') (rest := rest) (va_runV (C := y.cls) (As := As) (n := n) ⟨hx, hb, hml, hown, hts⟩ (hM l H.size)
    ⟨⟨rfl, rfl, hR.1, hR.2, pay_in hts (good_cons hco), List.mem_cons_self, hts _ hco, hts _ hini, hy, num_par hnp, hts _ hlink⟩, hts _ hinst, hts _ hsel⟩
    ⟨mP_blind, ⟨cellB, r1, r2, r3⟩, fun U hU hW => ⟨rfl, by rw [hU], by rw [hU]; exact mid_P hP, va_K.moved hW.alike hK, (mid_D hD).weaken (fun _ _ _ _ => trivial), hST.at hS hU hW hAm⟩⟩ rfl hn hl.1 rfl (lv_room h8) hd ⟨hce, hsl⟩) hS hAm (fun H1 locs1 hP1 hD1 hk hS1 => ?_)
  obtain ⟨hP2, hD2⟩ := mid_join hP hD hk hAm hP1 hD1
  exact k H1 locs1 ls hP2 hD2 hS1 hl
theorem g_callV {Z : ZT} {X : XT} {cc : ByteArray} {own : String} {nL : Nat} {R : Room} {pc pc' : Nat} {L : List (Option Value)} {S rest : List Value} {w w' : va_W} {y : MethodName} {bytes : ByteArray} {maxL d n index q0 ci : Nat} {ret : Option FieldType} {b : Nat} {As : List Value} {v : Option Value} {q : vw_C} {fs : List Value}
    (h : OK Z X cc own nL R) (hd : decode cc pc = .ok (.invokevirtual index, 3)) (cf : CF 0 own index y bytes maxL ret n) (hM : MM Z y bytes maxL ret d (.ref b :: As) w v w')
    (hq : w[q0]? = some (b, .inr (ci, fs))) (hc : clsL[ci]? = some q) (hqc : q.1 = y.cls) (hn : As.length = n) (hR : d + 1 ≤ R.frames ∧ 8 + (maxL + 11) + 30 * d ≤ R.locals) (hst : S = As.reverse ++ .ref b :: rest) (h8 : (rest.map fun v => v.category).sum ≤ 8) (hp : pc + 3 = pc')
    (k : GG Z X pc' L (v.toList ++ rest) w') : GG Z X pc L S w := by
  have e1 : w = [] ++ (w ++ []) := by simp
  have e2 : w' = [] ++ (w' ++ []) := by simp
  rw [e1]
  rw [e2] at k
  exact g_callM h hd cf hM hq hc hqc hn hR hst h8 hp k
theorem g_callS {Z : ZT} {X : XT} {cc : ByteArray} {own : String} {nL : Nat} {R : Room} {pc pc' : Nat} {L : List (Option Value)} {S rest : List Value} {w w' : va_W} {y : MethodName} {bytes : ByteArray} {maxL d n index : Nat} {ret : Option FieldType} {As : List Value} {v : Option Value}
    (h : OK Z X cc own nL R) (hd : decode cc pc = .ok (.invokestatic index, 3)) (cf : CF 1 own index y bytes maxL ret n) (hM : MM Z y bytes maxL ret d As w v w')
    (hn : As.length = n) (hR : d + 1 ≤ R.frames ∧ 8 + (maxL + 11) + 30 * d ≤ R.locals) (hst : S = As.reverse ++ rest) (h8 : (rest.map fun v => v.category).sum ≤ 8) (hp : pc + 3 = pc')
    (k : GG Z X pc' L (v.toList ++ rest) w') : GG Z X pc L S w := by
  have e1 : w = [] ++ (w ++ []) := by simp
  have e2 : w' = [] ++ (w' ++ []) := by simp
  rw [e1]
  rw [e2] at k
  obtain ⟨p, l, e, R0, s, m, args, below, meth, c, ce, sl, nL', A, Q⟩ := X
  obtain ⟨⟨hx, hb, hml⟩, hown, hts, hlk, hK, hST, hA, rfl, rfl, hce, hsl⟩ := h
  subst hp
  subst hst
  intro H locs ls hP hD hS hl
  obtain ⟨⟨hlink, hstt⟩, hini, hco, hy, hnp⟩ := cf
  have hAm := va_A_mid hD hS hA
  refine call_go (v := v) (w1 := w) (w1' := w') (rest := rest) (va_runS (As := As) (n := n) ⟨hx, hb, hml, hown, hts⟩ (hM l H.size)
    ⟨⟨rfl, rfl, hR.1, hR.2, pay_in hts (good_cons hco), List.mem_cons_self, hts _ hco, hts _ hini, hy, num_par hnp, hts _ hlink⟩, hts _ hstt⟩
    ⟨mP_blind, fun U hU hW => ⟨rfl, by rw [hU], by rw [hU]; exact mid_P hP, va_K.moved hW.alike hK, (mid_D hD).weaken (fun _ _ _ _ => trivial), hST.at hS hU hW hAm⟩⟩ rfl hn hl.1 rfl (lv_room h8) hd ⟨hce, hsl⟩) hS hAm (fun H1 locs1 hP1 hD1 hk hS1 => ?_)
  obtain ⟨hP2, hD2⟩ := mid_join hP hD hk hAm hP1 hD1
  exact k H1 locs1 ls hP2 hD2 hS1 hl
theorem g_callN {Z : ZT} {X : XT} {cc : ByteArray} {own : String} {nL : Nat} {R : Room} {pc pc' : Nat} {L : List (Option Value)} {S rest : List Value} {w w' : va_W} {y : MethodName} {bytes : ByteArray} {maxL d n index : Nat} {ret : Option FieldType} {As : List Value} {v : Option Value}
    (h : OK Z X cc own nL R) (hd : decode cc pc = .ok (.invokestatic index, 3)) (cf : CF 2 own index y bytes maxL ret n) (hM : MM Z y bytes maxL ret d As w v w')
    (hn : As.length = n) (hR : d + 1 ≤ R.frames ∧ 8 + (maxL + 11) + 30 * d ≤ R.locals) (hst : S = As.reverse ++ rest) (h8 : (rest.map fun v => v.category).sum ≤ 8) (hp : pc + 3 = pc')
    (k : GG Z X pc' L (v.toList ++ rest) w') : GG Z X pc L S w := by
  have e1 : w = [] ++ (w ++ []) := by simp
  have e2 : w' = [] ++ (w' ++ []) := by simp
  rw [e1]
  rw [e2] at k
  obtain ⟨p, l, e, R0, s, m, args, below, meth, c, ce, sl, nL', A, Q⟩ := X
  obtain ⟨⟨hx, hb, hml⟩, hown, hts, hlk, hK, hST, hA, rfl, rfl, hce, hsl⟩ := h
  subst hp
  subst hst
  intro H locs ls hP hD hS hl
  obtain ⟨⟨hlink, hstt⟩, hini, hco, hy, hnp⟩ := cf
  have hAm := va_A_mid hD hS hA
  refine call_go (v := v) (w1 := w) (w1' := w') (rest := rest) (va_runSN (host := "WhoPays") (As := As) (n := n) ⟨hx, hb, hml, hown, hts⟩ (hM l H.size)
    ⟨⟨⟨rfl, rfl, hR.1, hR.2, pay_in hts (good_cons hco), List.mem_cons_self⟩, hts _ hco, hts _ hini, hy, num_par hnp, va_Nw.use rfl (hST.2.2 _ hlink)⟩, hts _ hstt, trivial⟩
    ⟨mP_blind, fun U hU hW => ⟨rfl, by rw [hU], by rw [hU]; exact mid_P hP, va_K.moved hW.alike hK, (mid_D hD).weaken (fun _ _ _ _ => trivial), hST.at hS hU hW hAm⟩⟩ rfl hn hl.1 rfl (lv_room h8) hd ⟨hce, hsl⟩) hS hAm (fun H1 locs1 hP1 hD1 hk hS1 => ?_)
  obtain ⟨hP2, hD2⟩ := mid_join hP hD hk hAm hP1 hD1
  exact k H1 locs1 ls hP2 hD2 hS1 hl
end
section
def wC (Z : ZT) (n : Int32) (toll : Int32) (paid : Int32) (coin : Nat → Int32) (debt : Nat → Int32) (fall : Nat → Int32) (shr : Nat → Int64) (mat : Nat → Int64) (rgt : Nat → Int64) (pen : Int32) (last : Int32) (below : Int64) : va_W := [(Z.2.2 0, .inr (3, [.ref (Z.2.2 1), .ref (Z.2.2 2), .ref (Z.2.2 3)])), (Z.2.2 1, .inr (0, [.int n, .int toll, .int paid, .ref (Z.2.2 4), .ref (Z.2.2 5)])), (Z.2.2 2, .inr (1, [.ref (Z.2.2 1), .ref (Z.2.2 6), .ref (Z.2.2 7), .ref (Z.2.2 8), .ref (Z.2.2 9), .int pen, .int last, .long below])), (Z.2.2 3, .inr (2, [.ref (Z.2.2 1)])), (Z.2.2 4, .inl (Z.2.1 0, 4, .inl coin)), (Z.2.2 5, .inl (Z.2.1 0, 20, .inl debt)), (Z.2.2 6, .inl (Z.2.1 0, 4, .inl fall)), (Z.2.2 7, .inl (Z.2.1 1, 4, .inr (.inl shr))), (Z.2.2 8, .inl (Z.2.1 1, 16, .inr (.inl mat))), (Z.2.2 9, .inl (Z.2.1 1, 4, .inr (.inl rgt)))]
def wR (Z : ZT) (n : Int32) (toll : Int32) (paid : Int64) (cash : Nat → Int64) (debts : Nat → Int32) (fallen : Nat → Int32) (rounds : Int32) (shares : Nat → Int64) (under : Int64) (table : Nat → Int64) (right : Nat → Int64) (tried : Nat → Int64) (falls : Nat → Int32) (rsize : Int32) (ringOf : Nat → Int32) (row : Nat → Int32) (found : Int32) (hh : Int64) : va_W := [(Z.2.2 10, .inr (4, [.int n, .int toll, .long paid, .ref (Z.2.2 11), .ref (Z.2.2 12), .ref (Z.2.2 13), .int rounds, .ref (Z.2.2 14), .long under, .ref (Z.2.2 15), .ref (Z.2.2 16), .ref (Z.2.2 17), .ref (Z.2.2 18), .int rsize, .ref (Z.2.2 19), .ref (Z.2.2 20), .int found, .long hh])), (Z.2.2 11, .inl (Z.2.1 1, 4, .inr (.inl cash))), (Z.2.2 12, .inl (Z.2.1 0, 20, .inl debts)), (Z.2.2 13, .inl (Z.2.1 0, 4, .inl fallen)), (Z.2.2 14, .inl (Z.2.1 1, 4, .inr (.inl shares))), (Z.2.2 15, .inl (Z.2.1 1, 16, .inr (.inl table))), (Z.2.2 16, .inl (Z.2.1 1, 4, .inr (.inl right))), (Z.2.2 17, .inl (Z.2.1 1, 16, .inr (.inl tried))), (Z.2.2 18, .inl (Z.2.1 2, 4, .inl falls)), (Z.2.2 19, .inl (Z.2.1 0, 4, .inl ringOf)), (Z.2.2 20, .inl (Z.2.1 0, 4, .inl row))]
theorem gf_X0_11 {Z : ZT} {X : XT} {cc : ByteArray} {nL : Nat} {R : Room} {pc pc' : Nat} {L : List (Option Value)} {S : List Value} {n : Int32} {toll : Int32} {paid : Int32} {coin : Nat → Int32} {debt : Nat → Int32} {fall : Nat → Int32} {shr : Nat → Int64} {mat : Nat → Int64} {rgt : Nat → Int64} {pen : Int32} {last : Int32} {below : Int64} (h : OK Z X cc RX0 nL R) (hd : decode cc pc = .ok (.getfield 11, 3)) (hp : pc + 3 = pc') (k : GG Z X pc' L (.int n :: S) (wC Z n toll paid coin debt fall shr mat rgt pen last below)) : GG Z X pc L (.ref (Z.2.2 1) :: S) (wC Z n toll paid coin debt fall shr mat rgt pen last below) := g_getf (C := RX0) (T := TX0) (N := 5) (q0 := 1) (ci := 0) 0 inX0 rfl (by decide) (mG 48 (by decide +kernel) rfl) h hd rfl rfl hp k
theorem gf_X0_18 {Z : ZT} {X : XT} {cc : ByteArray} {nL : Nat} {R : Room} {pc pc' : Nat} {L : List (Option Value)} {S : List Value} {n : Int32} {toll : Int32} {paid : Int32} {coin : Nat → Int32} {debt : Nat → Int32} {fall : Nat → Int32} {shr : Nat → Int64} {mat : Nat → Int64} {rgt : Nat → Int64} {pen : Int32} {last : Int32} {below : Int64} (h : OK Z X cc RX0 nL R) (hd : decode cc pc = .ok (.getfield 18, 3)) (hp : pc + 3 = pc') (k : GG Z X pc' L (.int paid :: S) (wC Z n toll paid coin debt fall shr mat rgt pen last below)) : GG Z X pc L (.ref (Z.2.2 1) :: S) (wC Z n toll paid coin debt fall shr mat rgt pen last below) := g_getf (C := RX0) (T := TX0) (N := 5) (q0 := 1) (ci := 0) 2 inX0 rfl (by decide) (mG 53 (by decide +kernel) rfl) h hd rfl rfl hp k
theorem gf_X0_21 {Z : ZT} {X : XT} {cc : ByteArray} {nL : Nat} {R : Room} {pc pc' : Nat} {L : List (Option Value)} {S : List Value} {n : Int32} {toll : Int32} {paid : Int32} {coin : Nat → Int32} {debt : Nat → Int32} {fall : Nat → Int32} {shr : Nat → Int64} {mat : Nat → Int64} {rgt : Nat → Int64} {pen : Int32} {last : Int32} {below : Int64} (h : OK Z X cc RX0 nL R) (hd : decode cc pc = .ok (.getfield 21, 3)) (hp : pc + 3 = pc') (k : GG Z X pc' L (.ref (Z.2.2 4) :: S) (wC Z n toll paid coin debt fall shr mat rgt pen last below)) : GG Z X pc L (.ref (Z.2.2 1) :: S) (wC Z n toll paid coin debt fall shr mat rgt pen last below) := g_getf (C := RX0) (T := TX0) (N := 5) (q0 := 1) (ci := 0) 3 inX0 rfl (by decide) (mG 55 (by decide +kernel) rfl) h hd rfl rfl hp k
theorem gf_X0_25 {Z : ZT} {X : XT} {cc : ByteArray} {nL : Nat} {R : Room} {pc pc' : Nat} {L : List (Option Value)} {S : List Value} {n : Int32} {toll : Int32} {paid : Int32} {coin : Nat → Int32} {debt : Nat → Int32} {fall : Nat → Int32} {shr : Nat → Int64} {mat : Nat → Int64} {rgt : Nat → Int64} {pen : Int32} {last : Int32} {below : Int64} (h : OK Z X cc RX0 nL R) (hd : decode cc pc = .ok (.getfield 25, 3)) (hp : pc + 3 = pc') (k : GG Z X pc' L (.ref (Z.2.2 5) :: S) (wC Z n toll paid coin debt fall shr mat rgt pen last below)) : GG Z X pc L (.ref (Z.2.2 1) :: S) (wC Z n toll paid coin debt fall shr mat rgt pen last below) := g_getf (C := RX0) (T := TX0) (N := 5) (q0 := 1) (ci := 0) 4 inX0 rfl (by decide) (mG 56 (by decide +kernel) rfl) h hd rfl rfl hp k
theorem gf_X1_9 {Z : ZT} {X : XT} {cc : ByteArray} {nL : Nat} {R : Room} {pc pc' : Nat} {L : List (Option Value)} {S : List Value} {n : Int32} {toll : Int32} {paid : Int32} {coin : Nat → Int32} {debt : Nat → Int32} {fall : Nat → Int32} {shr : Nat → Int64} {mat : Nat → Int64} {rgt : Nat → Int64} {pen : Int32} {last : Int32} {below : Int64} (h : OK Z X cc RX1 nL R) (hd : decode cc pc = .ok (.getfield 9, 3)) (hp : pc + 3 = pc') (k : GG Z X pc' L (.ref (Z.2.2 6) :: S) (wC Z n toll paid coin debt fall shr mat rgt pen last below)) : GG Z X pc L (.ref (Z.2.2 2) :: S) (wC Z n toll paid coin debt fall shr mat rgt pen last below) := g_getf (C := RX1) (T := TX1) (N := 8) (q0 := 2) (ci := 1) 1 inX1 rfl (by decide) (mG 76 (by decide +kernel) rfl) h hd rfl rfl hp k
theorem gf_X1_15 {Z : ZT} {X : XT} {cc : ByteArray} {nL : Nat} {R : Room} {pc pc' : Nat} {L : List (Option Value)} {S : List Value} {n : Int32} {toll : Int32} {paid : Int32} {coin : Nat → Int32} {debt : Nat → Int32} {fall : Nat → Int32} {shr : Nat → Int64} {mat : Nat → Int64} {rgt : Nat → Int64} {pen : Int32} {last : Int32} {below : Int64} (h : OK Z X cc RX1 nL R) (hd : decode cc pc = .ok (.getfield 15, 3)) (hp : pc + 3 = pc') (k : GG Z X pc' L (.ref (Z.2.2 7) :: S) (wC Z n toll paid coin debt fall shr mat rgt pen last below)) : GG Z X pc L (.ref (Z.2.2 2) :: S) (wC Z n toll paid coin debt fall shr mat rgt pen last below) := g_getf (C := RX1) (T := TX1) (N := 8) (q0 := 2) (ci := 1) 2 inX1 rfl (by decide) (mG 77 (by decide +kernel) rfl) h hd rfl rfl hp k
theorem gf_X1_19 {Z : ZT} {X : XT} {cc : ByteArray} {nL : Nat} {R : Room} {pc pc' : Nat} {L : List (Option Value)} {S : List Value} {n : Int32} {toll : Int32} {paid : Int32} {coin : Nat → Int32} {debt : Nat → Int32} {fall : Nat → Int32} {shr : Nat → Int64} {mat : Nat → Int64} {rgt : Nat → Int64} {pen : Int32} {last : Int32} {below : Int64} (h : OK Z X cc RX1 nL R) (hd : decode cc pc = .ok (.getfield 19, 3)) (hp : pc + 3 = pc') (k : GG Z X pc' L (.ref (Z.2.2 8) :: S) (wC Z n toll paid coin debt fall shr mat rgt pen last below)) : GG Z X pc L (.ref (Z.2.2 2) :: S) (wC Z n toll paid coin debt fall shr mat rgt pen last below) := g_getf (C := RX1) (T := TX1) (N := 8) (q0 := 2) (ci := 1) 3 inX1 rfl (by decide) (mG 78 (by decide +kernel) rfl) h hd rfl rfl hp k
theorem gf_X1_22 {Z : ZT} {X : XT} {cc : ByteArray} {nL : Nat} {R : Room} {pc pc' : Nat} {L : List (Option Value)} {S : List Value} {n : Int32} {toll : Int32} {paid : Int32} {coin : Nat → Int32} {debt : Nat → Int32} {fall : Nat → Int32} {shr : Nat → Int64} {mat : Nat → Int64} {rgt : Nat → Int64} {pen : Int32} {last : Int32} {below : Int64} (h : OK Z X cc RX1 nL R) (hd : decode cc pc = .ok (.getfield 22, 3)) (hp : pc + 3 = pc') (k : GG Z X pc' L (.ref (Z.2.2 9) :: S) (wC Z n toll paid coin debt fall shr mat rgt pen last below)) : GG Z X pc L (.ref (Z.2.2 2) :: S) (wC Z n toll paid coin debt fall shr mat rgt pen last below) := g_getf (C := RX1) (T := TX1) (N := 8) (q0 := 2) (ci := 1) 4 inX1 rfl (by decide) (mG 79 (by decide +kernel) rfl) h hd rfl rfl hp k
theorem gf_X1_25 {Z : ZT} {X : XT} {cc : ByteArray} {nL : Nat} {R : Room} {pc pc' : Nat} {L : List (Option Value)} {S : List Value} {n : Int32} {toll : Int32} {paid : Int32} {coin : Nat → Int32} {debt : Nat → Int32} {fall : Nat → Int32} {shr : Nat → Int64} {mat : Nat → Int64} {rgt : Nat → Int64} {pen : Int32} {last : Int32} {below : Int64} (h : OK Z X cc RX1 nL R) (hd : decode cc pc = .ok (.getfield 25, 3)) (hp : pc + 3 = pc') (k : GG Z X pc' L (.int pen :: S) (wC Z n toll paid coin debt fall shr mat rgt pen last below)) : GG Z X pc L (.ref (Z.2.2 2) :: S) (wC Z n toll paid coin debt fall shr mat rgt pen last below) := g_getf (C := RX1) (T := TX1) (N := 8) (q0 := 2) (ci := 1) 5 inX1 rfl (by decide) (mG 80 (by decide +kernel) rfl) h hd rfl rfl hp k
theorem gf_X1_32 {Z : ZT} {X : XT} {cc : ByteArray} {nL : Nat} {R : Room} {pc pc' : Nat} {L : List (Option Value)} {S : List Value} {n : Int32} {toll : Int32} {paid : Int32} {coin : Nat → Int32} {debt : Nat → Int32} {fall : Nat → Int32} {shr : Nat → Int64} {mat : Nat → Int64} {rgt : Nat → Int64} {pen : Int32} {last : Int32} {below : Int64} (h : OK Z X cc RX1 nL R) (hd : decode cc pc = .ok (.getfield 32, 3)) (hp : pc + 3 = pc') (k : GG Z X pc' L (.long below :: S) (wC Z n toll paid coin debt fall shr mat rgt pen last below)) : GG Z X pc L (.ref (Z.2.2 2) :: S) (wC Z n toll paid coin debt fall shr mat rgt pen last below) := g_getf (C := RX1) (T := TX1) (N := 8) (q0 := 2) (ci := 1) 7 inX1 rfl (by decide) (mG 83 (by decide +kernel) rfl) h hd rfl rfl hp k
theorem gf_X1_36 {Z : ZT} {X : XT} {cc : ByteArray} {nL : Nat} {R : Room} {pc pc' : Nat} {L : List (Option Value)} {S : List Value} {n : Int32} {toll : Int32} {paid : Int32} {coin : Nat → Int32} {debt : Nat → Int32} {fall : Nat → Int32} {shr : Nat → Int64} {mat : Nat → Int64} {rgt : Nat → Int64} {pen : Int32} {last : Int32} {below : Int64} (h : OK Z X cc RX1 nL R) (hd : decode cc pc = .ok (.getfield 36, 3)) (hp : pc + 3 = pc') (k : GG Z X pc' L (.ref (Z.2.2 1) :: S) (wC Z n toll paid coin debt fall shr mat rgt pen last below)) : GG Z X pc L (.ref (Z.2.2 2) :: S) (wC Z n toll paid coin debt fall shr mat rgt pen last below) := g_getf (C := RX1) (T := TX1) (N := 8) (q0 := 2) (ci := 1) 0 inX1 rfl (by decide) (mG 75 (by decide +kernel) rfl) h hd rfl rfl hp k
theorem gf_X1_81 {Z : ZT} {X : XT} {cc : ByteArray} {nL : Nat} {R : Room} {pc pc' : Nat} {L : List (Option Value)} {S : List Value} {n : Int32} {toll : Int32} {paid : Int32} {coin : Nat → Int32} {debt : Nat → Int32} {fall : Nat → Int32} {shr : Nat → Int64} {mat : Nat → Int64} {rgt : Nat → Int64} {pen : Int32} {last : Int32} {below : Int64} (h : OK Z X cc RX1 nL R) (hd : decode cc pc = .ok (.getfield 81, 3)) (hp : pc + 3 = pc') (k : GG Z X pc' L (.int toll :: S) (wC Z n toll paid coin debt fall shr mat rgt pen last below)) : GG Z X pc L (.ref (Z.2.2 1) :: S) (wC Z n toll paid coin debt fall shr mat rgt pen last below) := g_getf (C := RX0) (T := TX0) (N := 5) (q0 := 1) (ci := 0) 1 inX0 rfl (by decide) (mG 52 (by decide +kernel) rfl) h hd rfl rfl hp k
theorem gf_X2_9 {Z : ZT} {X : XT} {cc : ByteArray} {nL : Nat} {R : Room} {pc pc' : Nat} {L : List (Option Value)} {S : List Value} {n : Int32} {toll : Int32} {paid : Int32} {coin : Nat → Int32} {debt : Nat → Int32} {fall : Nat → Int32} {shr : Nat → Int64} {mat : Nat → Int64} {rgt : Nat → Int64} {pen : Int32} {last : Int32} {below : Int64} (h : OK Z X cc RX2 nL R) (hd : decode cc pc = .ok (.getfield 9, 3)) (hp : pc + 3 = pc') (k : GG Z X pc' L (.ref (Z.2.2 1) :: S) (wC Z n toll paid coin debt fall shr mat rgt pen last below)) : GG Z X pc L (.ref (Z.2.2 3) :: S) (wC Z n toll paid coin debt fall shr mat rgt pen last below) := g_getf (C := RX2) (T := TX2) (N := 1) (q0 := 3) (ci := 2) 0 inX2 rfl (by decide) (mG 109 (by decide +kernel) rfl) h hd rfl rfl hp k
theorem gf_X3_10 {Z : ZT} {X : XT} {cc : ByteArray} {nL : Nat} {R : Room} {pc pc' : Nat} {L : List (Option Value)} {S : List Value} {n : Int32} {toll : Int32} {paid : Int32} {coin : Nat → Int32} {debt : Nat → Int32} {fall : Nat → Int32} {shr : Nat → Int64} {mat : Nat → Int64} {rgt : Nat → Int64} {pen : Int32} {last : Int32} {below : Int64} (h : OK Z X cc RX3 nL R) (hd : decode cc pc = .ok (.getfield 10, 3)) (hp : pc + 3 = pc') (k : GG Z X pc' L (.ref (Z.2.2 1) :: S) (wC Z n toll paid coin debt fall shr mat rgt pen last below)) : GG Z X pc L (.ref (Z.2.2 0) :: S) (wC Z n toll paid coin debt fall shr mat rgt pen last below) := g_getf (C := RX3) (T := TX3) (N := 3) (q0 := 0) (ci := 3) 0 inX3 rfl (by decide) (mG 113 (by decide +kernel) rfl) h hd rfl rfl hp k
theorem gf_X3_21 {Z : ZT} {X : XT} {cc : ByteArray} {nL : Nat} {R : Room} {pc pc' : Nat} {L : List (Option Value)} {S : List Value} {n : Int32} {toll : Int32} {paid : Int32} {coin : Nat → Int32} {debt : Nat → Int32} {fall : Nat → Int32} {shr : Nat → Int64} {mat : Nat → Int64} {rgt : Nat → Int64} {pen : Int32} {last : Int32} {below : Int64} (h : OK Z X cc RX3 nL R) (hd : decode cc pc = .ok (.getfield 21, 3)) (hp : pc + 3 = pc') (k : GG Z X pc' L (.ref (Z.2.2 2) :: S) (wC Z n toll paid coin debt fall shr mat rgt pen last below)) : GG Z X pc L (.ref (Z.2.2 0) :: S) (wC Z n toll paid coin debt fall shr mat rgt pen last below) := g_getf (C := RX3) (T := TX3) (N := 3) (q0 := 0) (ci := 3) 1 inX3 rfl (by decide) (mG 114 (by decide +kernel) rfl) h hd rfl rfl hp k
theorem gf_X3_28 {Z : ZT} {X : XT} {cc : ByteArray} {nL : Nat} {R : Room} {pc pc' : Nat} {L : List (Option Value)} {S : List Value} {n : Int32} {toll : Int32} {paid : Int32} {coin : Nat → Int32} {debt : Nat → Int32} {fall : Nat → Int32} {shr : Nat → Int64} {mat : Nat → Int64} {rgt : Nat → Int64} {pen : Int32} {last : Int32} {below : Int64} (h : OK Z X cc RX3 nL R) (hd : decode cc pc = .ok (.getfield 28, 3)) (hp : pc + 3 = pc') (k : GG Z X pc' L (.ref (Z.2.2 3) :: S) (wC Z n toll paid coin debt fall shr mat rgt pen last below)) : GG Z X pc L (.ref (Z.2.2 0) :: S) (wC Z n toll paid coin debt fall shr mat rgt pen last below) := g_getf (C := RX3) (T := TX3) (N := 3) (q0 := 0) (ci := 3) 2 inX3 rfl (by decide) (mG 115 (by decide +kernel) rfl) h hd rfl rfl hp k
theorem gf_X3_62 {Z : ZT} {X : XT} {cc : ByteArray} {nL : Nat} {R : Room} {pc pc' : Nat} {L : List (Option Value)} {S : List Value} {n : Int32} {toll : Int32} {paid : Int32} {coin : Nat → Int32} {debt : Nat → Int32} {fall : Nat → Int32} {shr : Nat → Int64} {mat : Nat → Int64} {rgt : Nat → Int64} {pen : Int32} {last : Int32} {below : Int64} (h : OK Z X cc RX3 nL R) (hd : decode cc pc = .ok (.getfield 62, 3)) (hp : pc + 3 = pc') (k : GG Z X pc' L (.int toll :: S) (wC Z n toll paid coin debt fall shr mat rgt pen last below)) : GG Z X pc L (.ref (Z.2.2 1) :: S) (wC Z n toll paid coin debt fall shr mat rgt pen last below) := g_getf (C := RX0) (T := TX0) (N := 5) (q0 := 1) (ci := 0) 1 inX0 rfl (by decide) (mG 51 (by decide +kernel) rfl) h hd rfl rfl hp k
theorem gf_X3_75 {Z : ZT} {X : XT} {cc : ByteArray} {nL : Nat} {R : Room} {pc pc' : Nat} {L : List (Option Value)} {S : List Value} {n : Int32} {toll : Int32} {paid : Int32} {coin : Nat → Int32} {debt : Nat → Int32} {fall : Nat → Int32} {shr : Nat → Int64} {mat : Nat → Int64} {rgt : Nat → Int64} {pen : Int32} {last : Int32} {below : Int64} (h : OK Z X cc RX3 nL R) (hd : decode cc pc = .ok (.getfield 75, 3)) (hp : pc + 3 = pc') (k : GG Z X pc' L (.int last :: S) (wC Z n toll paid coin debt fall shr mat rgt pen last below)) : GG Z X pc L (.ref (Z.2.2 2) :: S) (wC Z n toll paid coin debt fall shr mat rgt pen last below) := g_getf (C := RX1) (T := TX1) (N := 8) (q0 := 2) (ci := 1) 6 inX1 rfl (by decide) (mG 82 (by decide +kernel) rfl) h hd rfl rfl hp k
theorem gf_X3_89 {Z : ZT} {X : XT} {cc : ByteArray} {nL : Nat} {R : Room} {pc pc' : Nat} {L : List (Option Value)} {S : List Value} {n : Int32} {toll : Int32} {paid : Int32} {coin : Nat → Int32} {debt : Nat → Int32} {fall : Nat → Int32} {shr : Nat → Int64} {mat : Nat → Int64} {rgt : Nat → Int64} {pen : Int32} {last : Int32} {below : Int64} (h : OK Z X cc RX3 nL R) (hd : decode cc pc = .ok (.getfield 89, 3)) (hp : pc + 3 = pc') (k : GG Z X pc' L (.long below :: S) (wC Z n toll paid coin debt fall shr mat rgt pen last below)) : GG Z X pc L (.ref (Z.2.2 2) :: S) (wC Z n toll paid coin debt fall shr mat rgt pen last below) := g_getf (C := RX1) (T := TX1) (N := 8) (q0 := 2) (ci := 1) 7 inX1 rfl (by decide) (mG 84 (by decide +kernel) rfl) h hd rfl rfl hp k
theorem gf_X3_116 {Z : ZT} {X : XT} {cc : ByteArray} {nL : Nat} {R : Room} {pc pc' : Nat} {L : List (Option Value)} {S : List Value} {n : Int32} {toll : Int32} {paid : Int32} {coin : Nat → Int32} {debt : Nat → Int32} {fall : Nat → Int32} {shr : Nat → Int64} {mat : Nat → Int64} {rgt : Nat → Int64} {pen : Int32} {last : Int32} {below : Int64} (h : OK Z X cc RX3 nL R) (hd : decode cc pc = .ok (.getfield 116, 3)) (hp : pc + 3 = pc') (k : GG Z X pc' L (.int n :: S) (wC Z n toll paid coin debt fall shr mat rgt pen last below)) : GG Z X pc L (.ref (Z.2.2 1) :: S) (wC Z n toll paid coin debt fall shr mat rgt pen last below) := g_getf (C := RX0) (T := TX0) (N := 5) (q0 := 1) (ci := 0) 0 inX0 rfl (by decide) (mG 49 (by decide +kernel) rfl) h hd rfl rfl hp k
theorem gf_X3_147 {Z : ZT} {X : XT} {cc : ByteArray} {nL : Nat} {R : Room} {pc pc' : Nat} {L : List (Option Value)} {S : List Value} {n : Int32} {toll : Int32} {paid : Int32} {coin : Nat → Int32} {debt : Nat → Int32} {fall : Nat → Int32} {shr : Nat → Int64} {mat : Nat → Int64} {rgt : Nat → Int64} {pen : Int32} {last : Int32} {below : Int64} (h : OK Z X cc RX3 nL R) (hd : decode cc pc = .ok (.getfield 147, 3)) (hp : pc + 3 = pc') (k : GG Z X pc' L (.int paid :: S) (wC Z n toll paid coin debt fall shr mat rgt pen last below)) : GG Z X pc L (.ref (Z.2.2 1) :: S) (wC Z n toll paid coin debt fall shr mat rgt pen last below) := g_getf (C := RX0) (T := TX0) (N := 5) (q0 := 1) (ci := 0) 2 inX0 rfl (by decide) (mG 54 (by decide +kernel) rfl) h hd rfl rfl hp k
theorem gf_X4_7 {Z : ZT} {X : XT} {cc : ByteArray} {nL : Nat} {R : Room} {pc pc' : Nat} {L : List (Option Value)} {S : List Value} {n : Int32} {toll : Int32} {paid : Int64} {cash : Nat → Int64} {debts : Nat → Int32} {fallen : Nat → Int32} {rounds : Int32} {shares : Nat → Int64} {under : Int64} {table : Nat → Int64} {right : Nat → Int64} {tried : Nat → Int64} {falls : Nat → Int32} {rsize : Int32} {ringOf : Nat → Int32} {row : Nat → Int32} {found : Int32} {hh : Int64} (h : OK Z X cc RX4 nL R) (hd : decode cc pc = .ok (.getfield 7, 3)) (hp : pc + 3 = pc') (k : GG Z X pc' L (.int n :: S) (wR Z n toll paid cash debts fallen rounds shares under table right tried falls rsize ringOf row found hh)) : GG Z X pc L (.ref (Z.2.2 10) :: S) (wR Z n toll paid cash debts fallen rounds shares under table right tried falls rsize ringOf row found hh) := g_getf (C := RX4) (T := TX4) (N := 18) (q0 := 0) (ci := 4) 0 inX4 rfl (by decide) (mG 441 (by decide +kernel) rfl) h hd rfl rfl hp k
theorem gf_X4_13 {Z : ZT} {X : XT} {cc : ByteArray} {nL : Nat} {R : Room} {pc pc' : Nat} {L : List (Option Value)} {S : List Value} {n : Int32} {toll : Int32} {paid : Int64} {cash : Nat → Int64} {debts : Nat → Int32} {fallen : Nat → Int32} {rounds : Int32} {shares : Nat → Int64} {under : Int64} {table : Nat → Int64} {right : Nat → Int64} {tried : Nat → Int64} {falls : Nat → Int32} {rsize : Int32} {ringOf : Nat → Int32} {row : Nat → Int32} {found : Int32} {hh : Int64} (h : OK Z X cc RX4 nL R) (hd : decode cc pc = .ok (.getfield 13, 3)) (hp : pc + 3 = pc') (k : GG Z X pc' L (.ref (Z.2.2 11) :: S) (wR Z n toll paid cash debts fallen rounds shares under table right tried falls rsize ringOf row found hh)) : GG Z X pc L (.ref (Z.2.2 10) :: S) (wR Z n toll paid cash debts fallen rounds shares under table right tried falls rsize ringOf row found hh) := g_getf (C := RX4) (T := TX4) (N := 18) (q0 := 0) (ci := 4) 3 inX4 rfl (by decide) (mG 444 (by decide +kernel) rfl) h hd rfl rfl hp k
theorem gf_X4_17 {Z : ZT} {X : XT} {cc : ByteArray} {nL : Nat} {R : Room} {pc pc' : Nat} {L : List (Option Value)} {S : List Value} {n : Int32} {toll : Int32} {paid : Int64} {cash : Nat → Int64} {debts : Nat → Int32} {fallen : Nat → Int32} {rounds : Int32} {shares : Nat → Int64} {under : Int64} {table : Nat → Int64} {right : Nat → Int64} {tried : Nat → Int64} {falls : Nat → Int32} {rsize : Int32} {ringOf : Nat → Int32} {row : Nat → Int32} {found : Int32} {hh : Int64} (h : OK Z X cc RX4 nL R) (hd : decode cc pc = .ok (.getfield 17, 3)) (hp : pc + 3 = pc') (k : GG Z X pc' L (.ref (Z.2.2 12) :: S) (wR Z n toll paid cash debts fallen rounds shares under table right tried falls rsize ringOf row found hh)) : GG Z X pc L (.ref (Z.2.2 10) :: S) (wR Z n toll paid cash debts fallen rounds shares under table right tried falls rsize ringOf row found hh) := g_getf (C := RX4) (T := TX4) (N := 18) (q0 := 0) (ci := 4) 4 inX4 rfl (by decide) (mG 445 (by decide +kernel) rfl) h hd rfl rfl hp k
theorem gf_X4_21 {Z : ZT} {X : XT} {cc : ByteArray} {nL : Nat} {R : Room} {pc pc' : Nat} {L : List (Option Value)} {S : List Value} {n : Int32} {toll : Int32} {paid : Int64} {cash : Nat → Int64} {debts : Nat → Int32} {fallen : Nat → Int32} {rounds : Int32} {shares : Nat → Int64} {under : Int64} {table : Nat → Int64} {right : Nat → Int64} {tried : Nat → Int64} {falls : Nat → Int32} {rsize : Int32} {ringOf : Nat → Int32} {row : Nat → Int32} {found : Int32} {hh : Int64} (h : OK Z X cc RX4 nL R) (hd : decode cc pc = .ok (.getfield 21, 3)) (hp : pc + 3 = pc') (k : GG Z X pc' L (.ref (Z.2.2 13) :: S) (wR Z n toll paid cash debts fallen rounds shares under table right tried falls rsize ringOf row found hh)) : GG Z X pc L (.ref (Z.2.2 10) :: S) (wR Z n toll paid cash debts fallen rounds shares under table right tried falls rsize ringOf row found hh) := g_getf (C := RX4) (T := TX4) (N := 18) (q0 := 0) (ci := 4) 5 inX4 rfl (by decide) (mG 446 (by decide +kernel) rfl) h hd rfl rfl hp k
theorem gf_X4_24 {Z : ZT} {X : XT} {cc : ByteArray} {nL : Nat} {R : Room} {pc pc' : Nat} {L : List (Option Value)} {S : List Value} {n : Int32} {toll : Int32} {paid : Int64} {cash : Nat → Int64} {debts : Nat → Int32} {fallen : Nat → Int32} {rounds : Int32} {shares : Nat → Int64} {under : Int64} {table : Nat → Int64} {right : Nat → Int64} {tried : Nat → Int64} {falls : Nat → Int32} {rsize : Int32} {ringOf : Nat → Int32} {row : Nat → Int32} {found : Int32} {hh : Int64} (h : OK Z X cc RX4 nL R) (hd : decode cc pc = .ok (.getfield 24, 3)) (hp : pc + 3 = pc') (k : GG Z X pc' L (.ref (Z.2.2 14) :: S) (wR Z n toll paid cash debts fallen rounds shares under table right tried falls rsize ringOf row found hh)) : GG Z X pc L (.ref (Z.2.2 10) :: S) (wR Z n toll paid cash debts fallen rounds shares under table right tried falls rsize ringOf row found hh) := g_getf (C := RX4) (T := TX4) (N := 18) (q0 := 0) (ci := 4) 7 inX4 rfl (by decide) (mG 448 (by decide +kernel) rfl) h hd rfl rfl hp k
theorem gf_X4_27 {Z : ZT} {X : XT} {cc : ByteArray} {nL : Nat} {R : Room} {pc pc' : Nat} {L : List (Option Value)} {S : List Value} {n : Int32} {toll : Int32} {paid : Int64} {cash : Nat → Int64} {debts : Nat → Int32} {fallen : Nat → Int32} {rounds : Int32} {shares : Nat → Int64} {under : Int64} {table : Nat → Int64} {right : Nat → Int64} {tried : Nat → Int64} {falls : Nat → Int32} {rsize : Int32} {ringOf : Nat → Int32} {row : Nat → Int32} {found : Int32} {hh : Int64} (h : OK Z X cc RX4 nL R) (hd : decode cc pc = .ok (.getfield 27, 3)) (hp : pc + 3 = pc') (k : GG Z X pc' L (.ref (Z.2.2 15) :: S) (wR Z n toll paid cash debts fallen rounds shares under table right tried falls rsize ringOf row found hh)) : GG Z X pc L (.ref (Z.2.2 10) :: S) (wR Z n toll paid cash debts fallen rounds shares under table right tried falls rsize ringOf row found hh) := g_getf (C := RX4) (T := TX4) (N := 18) (q0 := 0) (ci := 4) 9 inX4 rfl (by decide) (mG 450 (by decide +kernel) rfl) h hd rfl rfl hp k
theorem gf_X4_30 {Z : ZT} {X : XT} {cc : ByteArray} {nL : Nat} {R : Room} {pc pc' : Nat} {L : List (Option Value)} {S : List Value} {n : Int32} {toll : Int32} {paid : Int64} {cash : Nat → Int64} {debts : Nat → Int32} {fallen : Nat → Int32} {rounds : Int32} {shares : Nat → Int64} {under : Int64} {table : Nat → Int64} {right : Nat → Int64} {tried : Nat → Int64} {falls : Nat → Int32} {rsize : Int32} {ringOf : Nat → Int32} {row : Nat → Int32} {found : Int32} {hh : Int64} (h : OK Z X cc RX4 nL R) (hd : decode cc pc = .ok (.getfield 30, 3)) (hp : pc + 3 = pc') (k : GG Z X pc' L (.ref (Z.2.2 16) :: S) (wR Z n toll paid cash debts fallen rounds shares under table right tried falls rsize ringOf row found hh)) : GG Z X pc L (.ref (Z.2.2 10) :: S) (wR Z n toll paid cash debts fallen rounds shares under table right tried falls rsize ringOf row found hh) := g_getf (C := RX4) (T := TX4) (N := 18) (q0 := 0) (ci := 4) 10 inX4 rfl (by decide) (mG 451 (by decide +kernel) rfl) h hd rfl rfl hp k
theorem gf_X4_33 {Z : ZT} {X : XT} {cc : ByteArray} {nL : Nat} {R : Room} {pc pc' : Nat} {L : List (Option Value)} {S : List Value} {n : Int32} {toll : Int32} {paid : Int64} {cash : Nat → Int64} {debts : Nat → Int32} {fallen : Nat → Int32} {rounds : Int32} {shares : Nat → Int64} {under : Int64} {table : Nat → Int64} {right : Nat → Int64} {tried : Nat → Int64} {falls : Nat → Int32} {rsize : Int32} {ringOf : Nat → Int32} {row : Nat → Int32} {found : Int32} {hh : Int64} (h : OK Z X cc RX4 nL R) (hd : decode cc pc = .ok (.getfield 33, 3)) (hp : pc + 3 = pc') (k : GG Z X pc' L (.ref (Z.2.2 17) :: S) (wR Z n toll paid cash debts fallen rounds shares under table right tried falls rsize ringOf row found hh)) : GG Z X pc L (.ref (Z.2.2 10) :: S) (wR Z n toll paid cash debts fallen rounds shares under table right tried falls rsize ringOf row found hh) := g_getf (C := RX4) (T := TX4) (N := 18) (q0 := 0) (ci := 4) 11 inX4 rfl (by decide) (mG 452 (by decide +kernel) rfl) h hd rfl rfl hp k
theorem gf_X4_36 {Z : ZT} {X : XT} {cc : ByteArray} {nL : Nat} {R : Room} {pc pc' : Nat} {L : List (Option Value)} {S : List Value} {n : Int32} {toll : Int32} {paid : Int64} {cash : Nat → Int64} {debts : Nat → Int32} {fallen : Nat → Int32} {rounds : Int32} {shares : Nat → Int64} {under : Int64} {table : Nat → Int64} {right : Nat → Int64} {tried : Nat → Int64} {falls : Nat → Int32} {rsize : Int32} {ringOf : Nat → Int32} {row : Nat → Int32} {found : Int32} {hh : Int64} (h : OK Z X cc RX4 nL R) (hd : decode cc pc = .ok (.getfield 36, 3)) (hp : pc + 3 = pc') (k : GG Z X pc' L (.ref (Z.2.2 18) :: S) (wR Z n toll paid cash debts fallen rounds shares under table right tried falls rsize ringOf row found hh)) : GG Z X pc L (.ref (Z.2.2 10) :: S) (wR Z n toll paid cash debts fallen rounds shares under table right tried falls rsize ringOf row found hh) := g_getf (C := RX4) (T := TX4) (N := 18) (q0 := 0) (ci := 4) 12 inX4 rfl (by decide) (mG 453 (by decide +kernel) rfl) h hd rfl rfl hp k
theorem gf_X4_40 {Z : ZT} {X : XT} {cc : ByteArray} {nL : Nat} {R : Room} {pc pc' : Nat} {L : List (Option Value)} {S : List Value} {n : Int32} {toll : Int32} {paid : Int64} {cash : Nat → Int64} {debts : Nat → Int32} {fallen : Nat → Int32} {rounds : Int32} {shares : Nat → Int64} {under : Int64} {table : Nat → Int64} {right : Nat → Int64} {tried : Nat → Int64} {falls : Nat → Int32} {rsize : Int32} {ringOf : Nat → Int32} {row : Nat → Int32} {found : Int32} {hh : Int64} (h : OK Z X cc RX4 nL R) (hd : decode cc pc = .ok (.getfield 40, 3)) (hp : pc + 3 = pc') (k : GG Z X pc' L (.ref (Z.2.2 19) :: S) (wR Z n toll paid cash debts fallen rounds shares under table right tried falls rsize ringOf row found hh)) : GG Z X pc L (.ref (Z.2.2 10) :: S) (wR Z n toll paid cash debts fallen rounds shares under table right tried falls rsize ringOf row found hh) := g_getf (C := RX4) (T := TX4) (N := 18) (q0 := 0) (ci := 4) 14 inX4 rfl (by decide) (mG 455 (by decide +kernel) rfl) h hd rfl rfl hp k
theorem gf_X4_43 {Z : ZT} {X : XT} {cc : ByteArray} {nL : Nat} {R : Room} {pc pc' : Nat} {L : List (Option Value)} {S : List Value} {n : Int32} {toll : Int32} {paid : Int64} {cash : Nat → Int64} {debts : Nat → Int32} {fallen : Nat → Int32} {rounds : Int32} {shares : Nat → Int64} {under : Int64} {table : Nat → Int64} {right : Nat → Int64} {tried : Nat → Int64} {falls : Nat → Int32} {rsize : Int32} {ringOf : Nat → Int32} {row : Nat → Int32} {found : Int32} {hh : Int64} (h : OK Z X cc RX4 nL R) (hd : decode cc pc = .ok (.getfield 43, 3)) (hp : pc + 3 = pc') (k : GG Z X pc' L (.ref (Z.2.2 20) :: S) (wR Z n toll paid cash debts fallen rounds shares under table right tried falls rsize ringOf row found hh)) : GG Z X pc L (.ref (Z.2.2 10) :: S) (wR Z n toll paid cash debts fallen rounds shares under table right tried falls rsize ringOf row found hh) := g_getf (C := RX4) (T := TX4) (N := 18) (q0 := 0) (ci := 4) 15 inX4 rfl (by decide) (mG 456 (by decide +kernel) rfl) h hd rfl rfl hp k
theorem gf_X4_50 {Z : ZT} {X : XT} {cc : ByteArray} {nL : Nat} {R : Room} {pc pc' : Nat} {L : List (Option Value)} {S : List Value} {n : Int32} {toll : Int32} {paid : Int64} {cash : Nat → Int64} {debts : Nat → Int32} {fallen : Nat → Int32} {rounds : Int32} {shares : Nat → Int64} {under : Int64} {table : Nat → Int64} {right : Nat → Int64} {tried : Nat → Int64} {falls : Nat → Int32} {rsize : Int32} {ringOf : Nat → Int32} {row : Nat → Int32} {found : Int32} {hh : Int64} (h : OK Z X cc RX4 nL R) (hd : decode cc pc = .ok (.getfield 50, 3)) (hp : pc + 3 = pc') (k : GG Z X pc' L (.int toll :: S) (wR Z n toll paid cash debts fallen rounds shares under table right tried falls rsize ringOf row found hh)) : GG Z X pc L (.ref (Z.2.2 10) :: S) (wR Z n toll paid cash debts fallen rounds shares under table right tried falls rsize ringOf row found hh) := g_getf (C := RX4) (T := TX4) (N := 18) (q0 := 0) (ci := 4) 1 inX4 rfl (by decide) (mG 442 (by decide +kernel) rfl) h hd rfl rfl hp k
theorem gf_X4_53 {Z : ZT} {X : XT} {cc : ByteArray} {nL : Nat} {R : Room} {pc pc' : Nat} {L : List (Option Value)} {S : List Value} {n : Int32} {toll : Int32} {paid : Int64} {cash : Nat → Int64} {debts : Nat → Int32} {fallen : Nat → Int32} {rounds : Int32} {shares : Nat → Int64} {under : Int64} {table : Nat → Int64} {right : Nat → Int64} {tried : Nat → Int64} {falls : Nat → Int32} {rsize : Int32} {ringOf : Nat → Int32} {row : Nat → Int32} {found : Int32} {hh : Int64} (h : OK Z X cc RX4 nL R) (hd : decode cc pc = .ok (.getfield 53, 3)) (hp : pc + 3 = pc') (k : GG Z X pc' L (.long paid :: S) (wR Z n toll paid cash debts fallen rounds shares under table right tried falls rsize ringOf row found hh)) : GG Z X pc L (.ref (Z.2.2 10) :: S) (wR Z n toll paid cash debts fallen rounds shares under table right tried falls rsize ringOf row found hh) := g_getf (C := RX4) (T := TX4) (N := 18) (q0 := 0) (ci := 4) 2 inX4 rfl (by decide) (mG 443 (by decide +kernel) rfl) h hd rfl rfl hp k
theorem gf_X4_75 {Z : ZT} {X : XT} {cc : ByteArray} {nL : Nat} {R : Room} {pc pc' : Nat} {L : List (Option Value)} {S : List Value} {n : Int32} {toll : Int32} {paid : Int64} {cash : Nat → Int64} {debts : Nat → Int32} {fallen : Nat → Int32} {rounds : Int32} {shares : Nat → Int64} {under : Int64} {table : Nat → Int64} {right : Nat → Int64} {tried : Nat → Int64} {falls : Nat → Int32} {rsize : Int32} {ringOf : Nat → Int32} {row : Nat → Int32} {found : Int32} {hh : Int64} (h : OK Z X cc RX4 nL R) (hd : decode cc pc = .ok (.getfield 75, 3)) (hp : pc + 3 = pc') (k : GG Z X pc' L (.long under :: S) (wR Z n toll paid cash debts fallen rounds shares under table right tried falls rsize ringOf row found hh)) : GG Z X pc L (.ref (Z.2.2 10) :: S) (wR Z n toll paid cash debts fallen rounds shares under table right tried falls rsize ringOf row found hh) := g_getf (C := RX4) (T := TX4) (N := 18) (q0 := 0) (ci := 4) 8 inX4 rfl (by decide) (mG 449 (by decide +kernel) rfl) h hd rfl rfl hp k
theorem gf_X4_78 {Z : ZT} {X : XT} {cc : ByteArray} {nL : Nat} {R : Room} {pc pc' : Nat} {L : List (Option Value)} {S : List Value} {n : Int32} {toll : Int32} {paid : Int64} {cash : Nat → Int64} {debts : Nat → Int32} {fallen : Nat → Int32} {rounds : Int32} {shares : Nat → Int64} {under : Int64} {table : Nat → Int64} {right : Nat → Int64} {tried : Nat → Int64} {falls : Nat → Int32} {rsize : Int32} {ringOf : Nat → Int32} {row : Nat → Int32} {found : Int32} {hh : Int64} (h : OK Z X cc RX4 nL R) (hd : decode cc pc = .ok (.getfield 78, 3)) (hp : pc + 3 = pc') (k : GG Z X pc' L (.int rounds :: S) (wR Z n toll paid cash debts fallen rounds shares under table right tried falls rsize ringOf row found hh)) : GG Z X pc L (.ref (Z.2.2 10) :: S) (wR Z n toll paid cash debts fallen rounds shares under table right tried falls rsize ringOf row found hh) := g_getf (C := RX4) (T := TX4) (N := 18) (q0 := 0) (ci := 4) 6 inX4 rfl (by decide) (mG 447 (by decide +kernel) rfl) h hd rfl rfl hp k
theorem gf_X4_108 {Z : ZT} {X : XT} {cc : ByteArray} {nL : Nat} {R : Room} {pc pc' : Nat} {L : List (Option Value)} {S : List Value} {n : Int32} {toll : Int32} {paid : Int64} {cash : Nat → Int64} {debts : Nat → Int32} {fallen : Nat → Int32} {rounds : Int32} {shares : Nat → Int64} {under : Int64} {table : Nat → Int64} {right : Nat → Int64} {tried : Nat → Int64} {falls : Nat → Int32} {rsize : Int32} {ringOf : Nat → Int32} {row : Nat → Int32} {found : Int32} {hh : Int64} (h : OK Z X cc RX4 nL R) (hd : decode cc pc = .ok (.getfield 108, 3)) (hp : pc + 3 = pc') (k : GG Z X pc' L (.int found :: S) (wR Z n toll paid cash debts fallen rounds shares under table right tried falls rsize ringOf row found hh)) : GG Z X pc L (.ref (Z.2.2 10) :: S) (wR Z n toll paid cash debts fallen rounds shares under table right tried falls rsize ringOf row found hh) := g_getf (C := RX4) (T := TX4) (N := 18) (q0 := 0) (ci := 4) 16 inX4 rfl (by decide) (mG 457 (by decide +kernel) rfl) h hd rfl rfl hp k
theorem gf_X4_111 {Z : ZT} {X : XT} {cc : ByteArray} {nL : Nat} {R : Room} {pc pc' : Nat} {L : List (Option Value)} {S : List Value} {n : Int32} {toll : Int32} {paid : Int64} {cash : Nat → Int64} {debts : Nat → Int32} {fallen : Nat → Int32} {rounds : Int32} {shares : Nat → Int64} {under : Int64} {table : Nat → Int64} {right : Nat → Int64} {tried : Nat → Int64} {falls : Nat → Int32} {rsize : Int32} {ringOf : Nat → Int32} {row : Nat → Int32} {found : Int32} {hh : Int64} (h : OK Z X cc RX4 nL R) (hd : decode cc pc = .ok (.getfield 111, 3)) (hp : pc + 3 = pc') (k : GG Z X pc' L (.int rsize :: S) (wR Z n toll paid cash debts fallen rounds shares under table right tried falls rsize ringOf row found hh)) : GG Z X pc L (.ref (Z.2.2 10) :: S) (wR Z n toll paid cash debts fallen rounds shares under table right tried falls rsize ringOf row found hh) := g_getf (C := RX4) (T := TX4) (N := 18) (q0 := 0) (ci := 4) 13 inX4 rfl (by decide) (mG 454 (by decide +kernel) rfl) h hd rfl rfl hp k
theorem gf_X4_137 {Z : ZT} {X : XT} {cc : ByteArray} {nL : Nat} {R : Room} {pc pc' : Nat} {L : List (Option Value)} {S : List Value} {n : Int32} {toll : Int32} {paid : Int64} {cash : Nat → Int64} {debts : Nat → Int32} {fallen : Nat → Int32} {rounds : Int32} {shares : Nat → Int64} {under : Int64} {table : Nat → Int64} {right : Nat → Int64} {tried : Nat → Int64} {falls : Nat → Int32} {rsize : Int32} {ringOf : Nat → Int32} {row : Nat → Int32} {found : Int32} {hh : Int64} (h : OK Z X cc RX4 nL R) (hd : decode cc pc = .ok (.getfield 137, 3)) (hp : pc + 3 = pc') (k : GG Z X pc' L (.long hh :: S) (wR Z n toll paid cash debts fallen rounds shares under table right tried falls rsize ringOf row found hh)) : GG Z X pc L (.ref (Z.2.2 10) :: S) (wR Z n toll paid cash debts fallen rounds shares under table right tried falls rsize ringOf row found hh) := g_getf (C := RX4) (T := TX4) (N := 18) (q0 := 0) (ci := 4) 17 inX4 rfl (by decide) (mG 458 (by decide +kernel) rfl) h hd rfl rfl hp k
theorem pf_X0_11 {Z : ZT} {X : XT} {cc : ByteArray} {nL : Nat} {R : Room} {pc pc' : Nat} {L : List (Option Value)} {S : List Value} {n : Int32} {toll : Int32} {paid : Int32} {coin : Nat → Int32} {debt : Nat → Int32} {fall : Nat → Int32} {shr : Nat → Int64} {mat : Nat → Int64} {rgt : Nat → Int64} {pen : Int32} {last : Int32} {below : Int64} (h : OK Z X cc RX0 nL R) {x : Int32} (hd : decode cc pc = .ok (.putfield 11, 3)) (hp : pc + 3 = pc') (k : GG Z X pc' L S (wC Z x toll paid coin debt fall shr mat rgt pen last below)) : GG Z X pc L (.int x :: .ref (Z.2.2 1) :: S) (wC Z n toll paid coin debt fall shr mat rgt pen last below) := g_putf (C := RX0) (T := TX0) (N := 5) (q0 := 1) (ci := 0) (ty0 := tyX0) (ty := .int) 0 inX0 tyX0_ok nmX0 rfl (by decide) (mG 48 (by decide +kernel) rfl) rfl (by decide +kernel) rfl rfl h hd rfl (Nat.le_of_ble_eq_true rfl) hp k
theorem pf_X0_15 {Z : ZT} {X : XT} {cc : ByteArray} {nL : Nat} {R : Room} {pc pc' : Nat} {L : List (Option Value)} {S : List Value} {n : Int32} {toll : Int32} {paid : Int32} {coin : Nat → Int32} {debt : Nat → Int32} {fall : Nat → Int32} {shr : Nat → Int64} {mat : Nat → Int64} {rgt : Nat → Int64} {pen : Int32} {last : Int32} {below : Int64} (h : OK Z X cc RX0 nL R) {x : Int32} (hd : decode cc pc = .ok (.putfield 15, 3)) (hp : pc + 3 = pc') (k : GG Z X pc' L S (wC Z n x paid coin debt fall shr mat rgt pen last below)) : GG Z X pc L (.int x :: .ref (Z.2.2 1) :: S) (wC Z n toll paid coin debt fall shr mat rgt pen last below) := g_putf (C := RX0) (T := TX0) (N := 5) (q0 := 1) (ci := 0) (ty0 := tyX0) (ty := .int) 1 inX0 tyX0_ok nmX0 rfl (by decide) (mG 50 (by decide +kernel) rfl) rfl (by decide +kernel) rfl rfl h hd rfl (Nat.le_of_ble_eq_true rfl) hp k
theorem pf_X0_18 {Z : ZT} {X : XT} {cc : ByteArray} {nL : Nat} {R : Room} {pc pc' : Nat} {L : List (Option Value)} {S : List Value} {n : Int32} {toll : Int32} {paid : Int32} {coin : Nat → Int32} {debt : Nat → Int32} {fall : Nat → Int32} {shr : Nat → Int64} {mat : Nat → Int64} {rgt : Nat → Int64} {pen : Int32} {last : Int32} {below : Int64} (h : OK Z X cc RX0 nL R) {x : Int32} (hd : decode cc pc = .ok (.putfield 18, 3)) (hp : pc + 3 = pc') (k : GG Z X pc' L S (wC Z n toll x coin debt fall shr mat rgt pen last below)) : GG Z X pc L (.int x :: .ref (Z.2.2 1) :: S) (wC Z n toll paid coin debt fall shr mat rgt pen last below) := g_putf (C := RX0) (T := TX0) (N := 5) (q0 := 1) (ci := 0) (ty0 := tyX0) (ty := .int) 2 inX0 tyX0_ok nmX0 rfl (by decide) (mG 53 (by decide +kernel) rfl) rfl (by decide +kernel) rfl rfl h hd rfl (Nat.le_of_ble_eq_true rfl) hp k
theorem pf_X1_25 {Z : ZT} {X : XT} {cc : ByteArray} {nL : Nat} {R : Room} {pc pc' : Nat} {L : List (Option Value)} {S : List Value} {n : Int32} {toll : Int32} {paid : Int32} {coin : Nat → Int32} {debt : Nat → Int32} {fall : Nat → Int32} {shr : Nat → Int64} {mat : Nat → Int64} {rgt : Nat → Int64} {pen : Int32} {last : Int32} {below : Int64} (h : OK Z X cc RX1 nL R) {x : Int32} (hd : decode cc pc = .ok (.putfield 25, 3)) (hp : pc + 3 = pc') (k : GG Z X pc' L S (wC Z n toll paid coin debt fall shr mat rgt x last below)) : GG Z X pc L (.int x :: .ref (Z.2.2 2) :: S) (wC Z n toll paid coin debt fall shr mat rgt pen last below) := g_putf (C := RX1) (T := TX1) (N := 8) (q0 := 2) (ci := 1) (ty0 := tyX1) (ty := .int) 5 inX1 tyX1_ok nmX1 rfl (by decide) (mG 80 (by decide +kernel) rfl) rfl (by decide +kernel) rfl rfl h hd rfl (Nat.le_of_ble_eq_true rfl) hp k
theorem pf_X1_29 {Z : ZT} {X : XT} {cc : ByteArray} {nL : Nat} {R : Room} {pc pc' : Nat} {L : List (Option Value)} {S : List Value} {n : Int32} {toll : Int32} {paid : Int32} {coin : Nat → Int32} {debt : Nat → Int32} {fall : Nat → Int32} {shr : Nat → Int64} {mat : Nat → Int64} {rgt : Nat → Int64} {pen : Int32} {last : Int32} {below : Int64} (h : OK Z X cc RX1 nL R) {x : Int32} (hd : decode cc pc = .ok (.putfield 29, 3)) (hp : pc + 3 = pc') (k : GG Z X pc' L S (wC Z n toll paid coin debt fall shr mat rgt pen x below)) : GG Z X pc L (.int x :: .ref (Z.2.2 2) :: S) (wC Z n toll paid coin debt fall shr mat rgt pen last below) := g_putf (C := RX1) (T := TX1) (N := 8) (q0 := 2) (ci := 1) (ty0 := tyX1) (ty := .int) 6 inX1 tyX1_ok nmX1 rfl (by decide) (mG 81 (by decide +kernel) rfl) rfl (by decide +kernel) rfl rfl h hd rfl (Nat.le_of_ble_eq_true rfl) hp k
theorem pf_X1_32 {Z : ZT} {X : XT} {cc : ByteArray} {nL : Nat} {R : Room} {pc pc' : Nat} {L : List (Option Value)} {S : List Value} {n : Int32} {toll : Int32} {paid : Int32} {coin : Nat → Int32} {debt : Nat → Int32} {fall : Nat → Int32} {shr : Nat → Int64} {mat : Nat → Int64} {rgt : Nat → Int64} {pen : Int32} {last : Int32} {below : Int64} (h : OK Z X cc RX1 nL R) {x : Int64} (hd : decode cc pc = .ok (.putfield 32, 3)) (hp : pc + 3 = pc') (k : GG Z X pc' L S (wC Z n toll paid coin debt fall shr mat rgt pen last x)) : GG Z X pc L (.long x :: .ref (Z.2.2 2) :: S) (wC Z n toll paid coin debt fall shr mat rgt pen last below) := g_putf (C := RX1) (T := TX1) (N := 8) (q0 := 2) (ci := 1) (ty0 := tyX1) (ty := .long) 7 inX1 tyX1_ok nmX1 rfl (by decide) (mG 83 (by decide +kernel) rfl) rfl (by decide +kernel) rfl rfl h hd rfl (Nat.le_of_ble_eq_true rfl) hp k
theorem pf_X3_62 {Z : ZT} {X : XT} {cc : ByteArray} {nL : Nat} {R : Room} {pc pc' : Nat} {L : List (Option Value)} {S : List Value} {n : Int32} {toll : Int32} {paid : Int32} {coin : Nat → Int32} {debt : Nat → Int32} {fall : Nat → Int32} {shr : Nat → Int64} {mat : Nat → Int64} {rgt : Nat → Int64} {pen : Int32} {last : Int32} {below : Int64} (h : OK Z X cc RX3 nL R) {x : Int32} (hd : decode cc pc = .ok (.putfield 62, 3)) (hp : pc + 3 = pc') (k : GG Z X pc' L S (wC Z n x paid coin debt fall shr mat rgt pen last below)) : GG Z X pc L (.int x :: .ref (Z.2.2 1) :: S) (wC Z n toll paid coin debt fall shr mat rgt pen last below) := g_putf (C := RX0) (T := TX0) (N := 5) (q0 := 1) (ci := 0) (ty0 := tyX0) (ty := .int) 1 inX0 tyX0_ok nmX0 rfl (by decide) (mG 51 (by decide +kernel) rfl) rfl (by decide +kernel) rfl rfl h hd rfl (Nat.le_of_ble_eq_true rfl) hp k
theorem pf_X4_7 {Z : ZT} {X : XT} {cc : ByteArray} {nL : Nat} {R : Room} {pc pc' : Nat} {L : List (Option Value)} {S : List Value} {n : Int32} {toll : Int32} {paid : Int64} {cash : Nat → Int64} {debts : Nat → Int32} {fallen : Nat → Int32} {rounds : Int32} {shares : Nat → Int64} {under : Int64} {table : Nat → Int64} {right : Nat → Int64} {tried : Nat → Int64} {falls : Nat → Int32} {rsize : Int32} {ringOf : Nat → Int32} {row : Nat → Int32} {found : Int32} {hh : Int64} (h : OK Z X cc RX4 nL R) {x : Int32} (hd : decode cc pc = .ok (.putfield 7, 3)) (hp : pc + 3 = pc') (k : GG Z X pc' L S (wR Z x toll paid cash debts fallen rounds shares under table right tried falls rsize ringOf row found hh)) : GG Z X pc L (.int x :: .ref (Z.2.2 10) :: S) (wR Z n toll paid cash debts fallen rounds shares under table right tried falls rsize ringOf row found hh) := g_putf (C := RX4) (T := TX4) (N := 18) (q0 := 0) (ci := 4) (ty0 := tyX4) (ty := .int) 0 inX4 tyX4_ok nmX4 rfl (by decide) (mG 441 (by decide +kernel) rfl) rfl (by decide +kernel) rfl rfl h hd rfl (Nat.le_of_ble_eq_true rfl) hp k
theorem pf_X4_50 {Z : ZT} {X : XT} {cc : ByteArray} {nL : Nat} {R : Room} {pc pc' : Nat} {L : List (Option Value)} {S : List Value} {n : Int32} {toll : Int32} {paid : Int64} {cash : Nat → Int64} {debts : Nat → Int32} {fallen : Nat → Int32} {rounds : Int32} {shares : Nat → Int64} {under : Int64} {table : Nat → Int64} {right : Nat → Int64} {tried : Nat → Int64} {falls : Nat → Int32} {rsize : Int32} {ringOf : Nat → Int32} {row : Nat → Int32} {found : Int32} {hh : Int64} (h : OK Z X cc RX4 nL R) {x : Int32} (hd : decode cc pc = .ok (.putfield 50, 3)) (hp : pc + 3 = pc') (k : GG Z X pc' L S (wR Z n x paid cash debts fallen rounds shares under table right tried falls rsize ringOf row found hh)) : GG Z X pc L (.int x :: .ref (Z.2.2 10) :: S) (wR Z n toll paid cash debts fallen rounds shares under table right tried falls rsize ringOf row found hh) := g_putf (C := RX4) (T := TX4) (N := 18) (q0 := 0) (ci := 4) (ty0 := tyX4) (ty := .int) 1 inX4 tyX4_ok nmX4 rfl (by decide) (mG 442 (by decide +kernel) rfl) rfl (by decide +kernel) rfl rfl h hd rfl (Nat.le_of_ble_eq_true rfl) hp k
theorem pf_X4_53 {Z : ZT} {X : XT} {cc : ByteArray} {nL : Nat} {R : Room} {pc pc' : Nat} {L : List (Option Value)} {S : List Value} {n : Int32} {toll : Int32} {paid : Int64} {cash : Nat → Int64} {debts : Nat → Int32} {fallen : Nat → Int32} {rounds : Int32} {shares : Nat → Int64} {under : Int64} {table : Nat → Int64} {right : Nat → Int64} {tried : Nat → Int64} {falls : Nat → Int32} {rsize : Int32} {ringOf : Nat → Int32} {row : Nat → Int32} {found : Int32} {hh : Int64} (h : OK Z X cc RX4 nL R) {x : Int64} (hd : decode cc pc = .ok (.putfield 53, 3)) (hp : pc + 3 = pc') (k : GG Z X pc' L S (wR Z n toll x cash debts fallen rounds shares under table right tried falls rsize ringOf row found hh)) : GG Z X pc L (.long x :: .ref (Z.2.2 10) :: S) (wR Z n toll paid cash debts fallen rounds shares under table right tried falls rsize ringOf row found hh) := g_putf (C := RX4) (T := TX4) (N := 18) (q0 := 0) (ci := 4) (ty0 := tyX4) (ty := .long) 2 inX4 tyX4_ok nmX4 rfl (by decide) (mG 443 (by decide +kernel) rfl) rfl (by decide +kernel) rfl rfl h hd rfl (Nat.le_of_ble_eq_true rfl) hp k
theorem pf_X4_75 {Z : ZT} {X : XT} {cc : ByteArray} {nL : Nat} {R : Room} {pc pc' : Nat} {L : List (Option Value)} {S : List Value} {n : Int32} {toll : Int32} {paid : Int64} {cash : Nat → Int64} {debts : Nat → Int32} {fallen : Nat → Int32} {rounds : Int32} {shares : Nat → Int64} {under : Int64} {table : Nat → Int64} {right : Nat → Int64} {tried : Nat → Int64} {falls : Nat → Int32} {rsize : Int32} {ringOf : Nat → Int32} {row : Nat → Int32} {found : Int32} {hh : Int64} (h : OK Z X cc RX4 nL R) {x : Int64} (hd : decode cc pc = .ok (.putfield 75, 3)) (hp : pc + 3 = pc') (k : GG Z X pc' L S (wR Z n toll paid cash debts fallen rounds shares x table right tried falls rsize ringOf row found hh)) : GG Z X pc L (.long x :: .ref (Z.2.2 10) :: S) (wR Z n toll paid cash debts fallen rounds shares under table right tried falls rsize ringOf row found hh) := g_putf (C := RX4) (T := TX4) (N := 18) (q0 := 0) (ci := 4) (ty0 := tyX4) (ty := .long) 8 inX4 tyX4_ok nmX4 rfl (by decide) (mG 449 (by decide +kernel) rfl) rfl (by decide +kernel) rfl rfl h hd rfl (Nat.le_of_ble_eq_true rfl) hp k
theorem pf_X4_78 {Z : ZT} {X : XT} {cc : ByteArray} {nL : Nat} {R : Room} {pc pc' : Nat} {L : List (Option Value)} {S : List Value} {n : Int32} {toll : Int32} {paid : Int64} {cash : Nat → Int64} {debts : Nat → Int32} {fallen : Nat → Int32} {rounds : Int32} {shares : Nat → Int64} {under : Int64} {table : Nat → Int64} {right : Nat → Int64} {tried : Nat → Int64} {falls : Nat → Int32} {rsize : Int32} {ringOf : Nat → Int32} {row : Nat → Int32} {found : Int32} {hh : Int64} (h : OK Z X cc RX4 nL R) {x : Int32} (hd : decode cc pc = .ok (.putfield 78, 3)) (hp : pc + 3 = pc') (k : GG Z X pc' L S (wR Z n toll paid cash debts fallen x shares under table right tried falls rsize ringOf row found hh)) : GG Z X pc L (.int x :: .ref (Z.2.2 10) :: S) (wR Z n toll paid cash debts fallen rounds shares under table right tried falls rsize ringOf row found hh) := g_putf (C := RX4) (T := TX4) (N := 18) (q0 := 0) (ci := 4) (ty0 := tyX4) (ty := .int) 6 inX4 tyX4_ok nmX4 rfl (by decide) (mG 447 (by decide +kernel) rfl) rfl (by decide +kernel) rfl rfl h hd rfl (Nat.le_of_ble_eq_true rfl) hp k
theorem pf_X4_108 {Z : ZT} {X : XT} {cc : ByteArray} {nL : Nat} {R : Room} {pc pc' : Nat} {L : List (Option Value)} {S : List Value} {n : Int32} {toll : Int32} {paid : Int64} {cash : Nat → Int64} {debts : Nat → Int32} {fallen : Nat → Int32} {rounds : Int32} {shares : Nat → Int64} {under : Int64} {table : Nat → Int64} {right : Nat → Int64} {tried : Nat → Int64} {falls : Nat → Int32} {rsize : Int32} {ringOf : Nat → Int32} {row : Nat → Int32} {found : Int32} {hh : Int64} (h : OK Z X cc RX4 nL R) {x : Int32} (hd : decode cc pc = .ok (.putfield 108, 3)) (hp : pc + 3 = pc') (k : GG Z X pc' L S (wR Z n toll paid cash debts fallen rounds shares under table right tried falls rsize ringOf row x hh)) : GG Z X pc L (.int x :: .ref (Z.2.2 10) :: S) (wR Z n toll paid cash debts fallen rounds shares under table right tried falls rsize ringOf row found hh) := g_putf (C := RX4) (T := TX4) (N := 18) (q0 := 0) (ci := 4) (ty0 := tyX4) (ty := .int) 16 inX4 tyX4_ok nmX4 rfl (by decide) (mG 457 (by decide +kernel) rfl) rfl (by decide +kernel) rfl rfl h hd rfl (Nat.le_of_ble_eq_true rfl) hp k
theorem pf_X4_111 {Z : ZT} {X : XT} {cc : ByteArray} {nL : Nat} {R : Room} {pc pc' : Nat} {L : List (Option Value)} {S : List Value} {n : Int32} {toll : Int32} {paid : Int64} {cash : Nat → Int64} {debts : Nat → Int32} {fallen : Nat → Int32} {rounds : Int32} {shares : Nat → Int64} {under : Int64} {table : Nat → Int64} {right : Nat → Int64} {tried : Nat → Int64} {falls : Nat → Int32} {rsize : Int32} {ringOf : Nat → Int32} {row : Nat → Int32} {found : Int32} {hh : Int64} (h : OK Z X cc RX4 nL R) {x : Int32} (hd : decode cc pc = .ok (.putfield 111, 3)) (hp : pc + 3 = pc') (k : GG Z X pc' L S (wR Z n toll paid cash debts fallen rounds shares under table right tried falls x ringOf row found hh)) : GG Z X pc L (.int x :: .ref (Z.2.2 10) :: S) (wR Z n toll paid cash debts fallen rounds shares under table right tried falls rsize ringOf row found hh) := g_putf (C := RX4) (T := TX4) (N := 18) (q0 := 0) (ci := 4) (ty0 := tyX4) (ty := .int) 13 inX4 tyX4_ok nmX4 rfl (by decide) (mG 454 (by decide +kernel) rfl) rfl (by decide +kernel) rfl rfl h hd rfl (Nat.le_of_ble_eq_true rfl) hp k
theorem pf_X4_137 {Z : ZT} {X : XT} {cc : ByteArray} {nL : Nat} {R : Room} {pc pc' : Nat} {L : List (Option Value)} {S : List Value} {n : Int32} {toll : Int32} {paid : Int64} {cash : Nat → Int64} {debts : Nat → Int32} {fallen : Nat → Int32} {rounds : Int32} {shares : Nat → Int64} {under : Int64} {table : Nat → Int64} {right : Nat → Int64} {tried : Nat → Int64} {falls : Nat → Int32} {rsize : Int32} {ringOf : Nat → Int32} {row : Nat → Int32} {found : Int32} {hh : Int64} (h : OK Z X cc RX4 nL R) {x : Int64} (hd : decode cc pc = .ok (.putfield 137, 3)) (hp : pc + 3 = pc') (k : GG Z X pc' L S (wR Z n toll paid cash debts fallen rounds shares under table right tried falls rsize ringOf row found x)) : GG Z X pc L (.long x :: .ref (Z.2.2 10) :: S) (wR Z n toll paid cash debts fallen rounds shares under table right tried falls rsize ringOf row found hh) := g_putf (C := RX4) (T := TX4) (N := 18) (q0 := 0) (ci := 4) (ty0 := tyX4) (ty := .long) 17 inX4 tyX4_ok nmX4 rfl (by decide) (mG 458 (by decide +kernel) rfl) rfl (by decide +kernel) rfl rfl h hd rfl (Nat.le_of_ble_eq_true rfl) hp k
theorem al_11 {Z : ZT} {X : XT} {cc : ByteArray} {nL : Nat} {R : Room} {pc pc' : Nat} {L : List (Option Value)} {S : List Value} {own : String} {n : Int32} {toll : Int32} {paid : Int64} {cash : Nat → Int64} {debts : Nat → Int32} {fallen : Nat → Int32} {rounds : Int32} {shares : Nat → Int64} {under : Int64} {table : Nat → Int64} {right : Nat → Int64} {tried : Nat → Int64} {falls : Nat → Int32} {rsize : Int32} {ringOf : Nat → Int32} {row : Nat → Int32} {found : Int32} {hh : Int64} (h : OK Z X cc own nL R) {i : Int32} {j : Nat} (hd : decode cc pc = .ok (.laload, 1)) (hi : i = nI j) (hj : j < 4) (hp : pc + 1 = pc') (k : GG Z X pc' L (.long (cash j) :: S) (wR Z n toll paid cash debts fallen rounds shares under table right tried falls rsize ringOf row found hh)) : GG Z X pc L (.int i :: .ref (Z.2.2 11) :: S) (wR Z n toll paid cash debts fallen rounds shares under table right tried falls rsize ringOf row found hh) := g_lal (q0 := 1) h hd rfl hi hj (by decide) hp k
theorem as_11 {Z : ZT} {X : XT} {cc : ByteArray} {nL : Nat} {R : Room} {pc pc' : Nat} {L : List (Option Value)} {S : List Value} {own : String} {n : Int32} {toll : Int32} {paid : Int64} {cash : Nat → Int64} {debts : Nat → Int32} {fallen : Nat → Int32} {rounds : Int32} {shares : Nat → Int64} {under : Int64} {table : Nat → Int64} {right : Nat → Int64} {tried : Nat → Int64} {falls : Nat → Int32} {rsize : Int32} {ringOf : Nat → Int32} {row : Nat → Int32} {found : Int32} {hh : Int64} (h : OK Z X cc own nL R) {i : Int32} {x : Int64} {j : Nat} (hd : decode cc pc = .ok (.lastore, 1)) (hi : i = nI j) (hj : j < 4) (hp : pc + 1 = pc') (k : GG Z X pc' L S (wR Z n toll paid (vp_updL cash j x) debts fallen rounds shares under table right tried falls rsize ringOf row found hh)) : GG Z X pc L (.long x :: .int i :: .ref (Z.2.2 11) :: S) (wR Z n toll paid cash debts fallen rounds shares under table right tried falls rsize ringOf row found hh) := g_las (q0 := 1) h hd rfl hi hj (by decide) hp k
theorem al_12 {Z : ZT} {X : XT} {cc : ByteArray} {nL : Nat} {R : Room} {pc pc' : Nat} {L : List (Option Value)} {S : List Value} {own : String} {n : Int32} {toll : Int32} {paid : Int64} {cash : Nat → Int64} {debts : Nat → Int32} {fallen : Nat → Int32} {rounds : Int32} {shares : Nat → Int64} {under : Int64} {table : Nat → Int64} {right : Nat → Int64} {tried : Nat → Int64} {falls : Nat → Int32} {rsize : Int32} {ringOf : Nat → Int32} {row : Nat → Int32} {found : Int32} {hh : Int64} (h : OK Z X cc own nL R) {i : Int32} {j : Nat} (hd : decode cc pc = .ok (.iaload, 1)) (hi : i = nI j) (hj : j < 20) (hp : pc + 1 = pc') (k : GG Z X pc' L (.int (debts j) :: S) (wR Z n toll paid cash debts fallen rounds shares under table right tried falls rsize ringOf row found hh)) : GG Z X pc L (.int i :: .ref (Z.2.2 12) :: S) (wR Z n toll paid cash debts fallen rounds shares under table right tried falls rsize ringOf row found hh) := g_ial (q0 := 2) h hd rfl hi hj (by decide) hp k
theorem as_12 {Z : ZT} {X : XT} {cc : ByteArray} {nL : Nat} {R : Room} {pc pc' : Nat} {L : List (Option Value)} {S : List Value} {own : String} {n : Int32} {toll : Int32} {paid : Int64} {cash : Nat → Int64} {debts : Nat → Int32} {fallen : Nat → Int32} {rounds : Int32} {shares : Nat → Int64} {under : Int64} {table : Nat → Int64} {right : Nat → Int64} {tried : Nat → Int64} {falls : Nat → Int32} {rsize : Int32} {ringOf : Nat → Int32} {row : Nat → Int32} {found : Int32} {hh : Int64} (h : OK Z X cc own nL R) {i : Int32} {x : Int32} {j : Nat} (hd : decode cc pc = .ok (.iastore, 1)) (hi : i = nI j) (hj : j < 20) (hp : pc + 1 = pc') (k : GG Z X pc' L S (wR Z n toll paid cash (upd debts j x) fallen rounds shares under table right tried falls rsize ringOf row found hh)) : GG Z X pc L (.int x :: .int i :: .ref (Z.2.2 12) :: S) (wR Z n toll paid cash debts fallen rounds shares under table right tried falls rsize ringOf row found hh) := g_ias (q0 := 2) h hd rfl hi hj (by decide) hp k
theorem al_13 {Z : ZT} {X : XT} {cc : ByteArray} {nL : Nat} {R : Room} {pc pc' : Nat} {L : List (Option Value)} {S : List Value} {own : String} {n : Int32} {toll : Int32} {paid : Int64} {cash : Nat → Int64} {debts : Nat → Int32} {fallen : Nat → Int32} {rounds : Int32} {shares : Nat → Int64} {under : Int64} {table : Nat → Int64} {right : Nat → Int64} {tried : Nat → Int64} {falls : Nat → Int32} {rsize : Int32} {ringOf : Nat → Int32} {row : Nat → Int32} {found : Int32} {hh : Int64} (h : OK Z X cc own nL R) {i : Int32} {j : Nat} (hd : decode cc pc = .ok (.iaload, 1)) (hi : i = nI j) (hj : j < 4) (hp : pc + 1 = pc') (k : GG Z X pc' L (.int (fallen j) :: S) (wR Z n toll paid cash debts fallen rounds shares under table right tried falls rsize ringOf row found hh)) : GG Z X pc L (.int i :: .ref (Z.2.2 13) :: S) (wR Z n toll paid cash debts fallen rounds shares under table right tried falls rsize ringOf row found hh) := g_ial (q0 := 3) h hd rfl hi hj (by decide) hp k
theorem as_13 {Z : ZT} {X : XT} {cc : ByteArray} {nL : Nat} {R : Room} {pc pc' : Nat} {L : List (Option Value)} {S : List Value} {own : String} {n : Int32} {toll : Int32} {paid : Int64} {cash : Nat → Int64} {debts : Nat → Int32} {fallen : Nat → Int32} {rounds : Int32} {shares : Nat → Int64} {under : Int64} {table : Nat → Int64} {right : Nat → Int64} {tried : Nat → Int64} {falls : Nat → Int32} {rsize : Int32} {ringOf : Nat → Int32} {row : Nat → Int32} {found : Int32} {hh : Int64} (h : OK Z X cc own nL R) {i : Int32} {x : Int32} {j : Nat} (hd : decode cc pc = .ok (.iastore, 1)) (hi : i = nI j) (hj : j < 4) (hp : pc + 1 = pc') (k : GG Z X pc' L S (wR Z n toll paid cash debts (upd fallen j x) rounds shares under table right tried falls rsize ringOf row found hh)) : GG Z X pc L (.int x :: .int i :: .ref (Z.2.2 13) :: S) (wR Z n toll paid cash debts fallen rounds shares under table right tried falls rsize ringOf row found hh) := g_ias (q0 := 3) h hd rfl hi hj (by decide) hp k
theorem al_14 {Z : ZT} {X : XT} {cc : ByteArray} {nL : Nat} {R : Room} {pc pc' : Nat} {L : List (Option Value)} {S : List Value} {own : String} {n : Int32} {toll : Int32} {paid : Int64} {cash : Nat → Int64} {debts : Nat → Int32} {fallen : Nat → Int32} {rounds : Int32} {shares : Nat → Int64} {under : Int64} {table : Nat → Int64} {right : Nat → Int64} {tried : Nat → Int64} {falls : Nat → Int32} {rsize : Int32} {ringOf : Nat → Int32} {row : Nat → Int32} {found : Int32} {hh : Int64} (h : OK Z X cc own nL R) {i : Int32} {j : Nat} (hd : decode cc pc = .ok (.laload, 1)) (hi : i = nI j) (hj : j < 4) (hp : pc + 1 = pc') (k : GG Z X pc' L (.long (shares j) :: S) (wR Z n toll paid cash debts fallen rounds shares under table right tried falls rsize ringOf row found hh)) : GG Z X pc L (.int i :: .ref (Z.2.2 14) :: S) (wR Z n toll paid cash debts fallen rounds shares under table right tried falls rsize ringOf row found hh) := g_lal (q0 := 4) h hd rfl hi hj (by decide) hp k
theorem as_14 {Z : ZT} {X : XT} {cc : ByteArray} {nL : Nat} {R : Room} {pc pc' : Nat} {L : List (Option Value)} {S : List Value} {own : String} {n : Int32} {toll : Int32} {paid : Int64} {cash : Nat → Int64} {debts : Nat → Int32} {fallen : Nat → Int32} {rounds : Int32} {shares : Nat → Int64} {under : Int64} {table : Nat → Int64} {right : Nat → Int64} {tried : Nat → Int64} {falls : Nat → Int32} {rsize : Int32} {ringOf : Nat → Int32} {row : Nat → Int32} {found : Int32} {hh : Int64} (h : OK Z X cc own nL R) {i : Int32} {x : Int64} {j : Nat} (hd : decode cc pc = .ok (.lastore, 1)) (hi : i = nI j) (hj : j < 4) (hp : pc + 1 = pc') (k : GG Z X pc' L S (wR Z n toll paid cash debts fallen rounds (vp_updL shares j x) under table right tried falls rsize ringOf row found hh)) : GG Z X pc L (.long x :: .int i :: .ref (Z.2.2 14) :: S) (wR Z n toll paid cash debts fallen rounds shares under table right tried falls rsize ringOf row found hh) := g_las (q0 := 4) h hd rfl hi hj (by decide) hp k
theorem al_15 {Z : ZT} {X : XT} {cc : ByteArray} {nL : Nat} {R : Room} {pc pc' : Nat} {L : List (Option Value)} {S : List Value} {own : String} {n : Int32} {toll : Int32} {paid : Int64} {cash : Nat → Int64} {debts : Nat → Int32} {fallen : Nat → Int32} {rounds : Int32} {shares : Nat → Int64} {under : Int64} {table : Nat → Int64} {right : Nat → Int64} {tried : Nat → Int64} {falls : Nat → Int32} {rsize : Int32} {ringOf : Nat → Int32} {row : Nat → Int32} {found : Int32} {hh : Int64} (h : OK Z X cc own nL R) {i : Int32} {j : Nat} (hd : decode cc pc = .ok (.laload, 1)) (hi : i = nI j) (hj : j < 16) (hp : pc + 1 = pc') (k : GG Z X pc' L (.long (table j) :: S) (wR Z n toll paid cash debts fallen rounds shares under table right tried falls rsize ringOf row found hh)) : GG Z X pc L (.int i :: .ref (Z.2.2 15) :: S) (wR Z n toll paid cash debts fallen rounds shares under table right tried falls rsize ringOf row found hh) := g_lal (q0 := 5) h hd rfl hi hj (by decide) hp k
theorem as_15 {Z : ZT} {X : XT} {cc : ByteArray} {nL : Nat} {R : Room} {pc pc' : Nat} {L : List (Option Value)} {S : List Value} {own : String} {n : Int32} {toll : Int32} {paid : Int64} {cash : Nat → Int64} {debts : Nat → Int32} {fallen : Nat → Int32} {rounds : Int32} {shares : Nat → Int64} {under : Int64} {table : Nat → Int64} {right : Nat → Int64} {tried : Nat → Int64} {falls : Nat → Int32} {rsize : Int32} {ringOf : Nat → Int32} {row : Nat → Int32} {found : Int32} {hh : Int64} (h : OK Z X cc own nL R) {i : Int32} {x : Int64} {j : Nat} (hd : decode cc pc = .ok (.lastore, 1)) (hi : i = nI j) (hj : j < 16) (hp : pc + 1 = pc') (k : GG Z X pc' L S (wR Z n toll paid cash debts fallen rounds shares under (vp_updL table j x) right tried falls rsize ringOf row found hh)) : GG Z X pc L (.long x :: .int i :: .ref (Z.2.2 15) :: S) (wR Z n toll paid cash debts fallen rounds shares under table right tried falls rsize ringOf row found hh) := g_las (q0 := 5) h hd rfl hi hj (by decide) hp k
theorem al_16 {Z : ZT} {X : XT} {cc : ByteArray} {nL : Nat} {R : Room} {pc pc' : Nat} {L : List (Option Value)} {S : List Value} {own : String} {n : Int32} {toll : Int32} {paid : Int64} {cash : Nat → Int64} {debts : Nat → Int32} {fallen : Nat → Int32} {rounds : Int32} {shares : Nat → Int64} {under : Int64} {table : Nat → Int64} {right : Nat → Int64} {tried : Nat → Int64} {falls : Nat → Int32} {rsize : Int32} {ringOf : Nat → Int32} {row : Nat → Int32} {found : Int32} {hh : Int64} (h : OK Z X cc own nL R) {i : Int32} {j : Nat} (hd : decode cc pc = .ok (.laload, 1)) (hi : i = nI j) (hj : j < 4) (hp : pc + 1 = pc') (k : GG Z X pc' L (.long (right j) :: S) (wR Z n toll paid cash debts fallen rounds shares under table right tried falls rsize ringOf row found hh)) : GG Z X pc L (.int i :: .ref (Z.2.2 16) :: S) (wR Z n toll paid cash debts fallen rounds shares under table right tried falls rsize ringOf row found hh) := g_lal (q0 := 6) h hd rfl hi hj (by decide) hp k
theorem as_16 {Z : ZT} {X : XT} {cc : ByteArray} {nL : Nat} {R : Room} {pc pc' : Nat} {L : List (Option Value)} {S : List Value} {own : String} {n : Int32} {toll : Int32} {paid : Int64} {cash : Nat → Int64} {debts : Nat → Int32} {fallen : Nat → Int32} {rounds : Int32} {shares : Nat → Int64} {under : Int64} {table : Nat → Int64} {right : Nat → Int64} {tried : Nat → Int64} {falls : Nat → Int32} {rsize : Int32} {ringOf : Nat → Int32} {row : Nat → Int32} {found : Int32} {hh : Int64} (h : OK Z X cc own nL R) {i : Int32} {x : Int64} {j : Nat} (hd : decode cc pc = .ok (.lastore, 1)) (hi : i = nI j) (hj : j < 4) (hp : pc + 1 = pc') (k : GG Z X pc' L S (wR Z n toll paid cash debts fallen rounds shares under table (vp_updL right j x) tried falls rsize ringOf row found hh)) : GG Z X pc L (.long x :: .int i :: .ref (Z.2.2 16) :: S) (wR Z n toll paid cash debts fallen rounds shares under table right tried falls rsize ringOf row found hh) := g_las (q0 := 6) h hd rfl hi hj (by decide) hp k
theorem al_17 {Z : ZT} {X : XT} {cc : ByteArray} {nL : Nat} {R : Room} {pc pc' : Nat} {L : List (Option Value)} {S : List Value} {own : String} {n : Int32} {toll : Int32} {paid : Int64} {cash : Nat → Int64} {debts : Nat → Int32} {fallen : Nat → Int32} {rounds : Int32} {shares : Nat → Int64} {under : Int64} {table : Nat → Int64} {right : Nat → Int64} {tried : Nat → Int64} {falls : Nat → Int32} {rsize : Int32} {ringOf : Nat → Int32} {row : Nat → Int32} {found : Int32} {hh : Int64} (h : OK Z X cc own nL R) {i : Int32} {j : Nat} (hd : decode cc pc = .ok (.laload, 1)) (hi : i = nI j) (hj : j < 16) (hp : pc + 1 = pc') (k : GG Z X pc' L (.long (tried j) :: S) (wR Z n toll paid cash debts fallen rounds shares under table right tried falls rsize ringOf row found hh)) : GG Z X pc L (.int i :: .ref (Z.2.2 17) :: S) (wR Z n toll paid cash debts fallen rounds shares under table right tried falls rsize ringOf row found hh) := g_lal (q0 := 7) h hd rfl hi hj (by decide) hp k
theorem as_17 {Z : ZT} {X : XT} {cc : ByteArray} {nL : Nat} {R : Room} {pc pc' : Nat} {L : List (Option Value)} {S : List Value} {own : String} {n : Int32} {toll : Int32} {paid : Int64} {cash : Nat → Int64} {debts : Nat → Int32} {fallen : Nat → Int32} {rounds : Int32} {shares : Nat → Int64} {under : Int64} {table : Nat → Int64} {right : Nat → Int64} {tried : Nat → Int64} {falls : Nat → Int32} {rsize : Int32} {ringOf : Nat → Int32} {row : Nat → Int32} {found : Int32} {hh : Int64} (h : OK Z X cc own nL R) {i : Int32} {x : Int64} {j : Nat} (hd : decode cc pc = .ok (.lastore, 1)) (hi : i = nI j) (hj : j < 16) (hp : pc + 1 = pc') (k : GG Z X pc' L S (wR Z n toll paid cash debts fallen rounds shares under table right (vp_updL tried j x) falls rsize ringOf row found hh)) : GG Z X pc L (.long x :: .int i :: .ref (Z.2.2 17) :: S) (wR Z n toll paid cash debts fallen rounds shares under table right tried falls rsize ringOf row found hh) := g_las (q0 := 7) h hd rfl hi hj (by decide) hp k
theorem al_18 {Z : ZT} {X : XT} {cc : ByteArray} {nL : Nat} {R : Room} {pc pc' : Nat} {L : List (Option Value)} {S : List Value} {own : String} {n : Int32} {toll : Int32} {paid : Int64} {cash : Nat → Int64} {debts : Nat → Int32} {fallen : Nat → Int32} {rounds : Int32} {shares : Nat → Int64} {under : Int64} {table : Nat → Int64} {right : Nat → Int64} {tried : Nat → Int64} {falls : Nat → Int32} {rsize : Int32} {ringOf : Nat → Int32} {row : Nat → Int32} {found : Int32} {hh : Int64} (h : OK Z X cc own nL R) {i : Int32} {j : Nat} (hd : decode cc pc = .ok (.baload, 1)) (hi : i = nI j) (hj : j < 4) (hp : pc + 1 = pc') (k : GG Z X pc' L (.int (falls j) :: S) (wR Z n toll paid cash debts fallen rounds shares under table right tried falls rsize ringOf row found hh)) : GG Z X pc L (.int i :: .ref (Z.2.2 18) :: S) (wR Z n toll paid cash debts fallen rounds shares under table right tried falls rsize ringOf row found hh) := g_zal (q0 := 8) h hd rfl hi hj (by decide) hp k
theorem as_18 {Z : ZT} {X : XT} {cc : ByteArray} {nL : Nat} {R : Room} {pc pc' : Nat} {L : List (Option Value)} {S : List Value} {own : String} {n : Int32} {toll : Int32} {paid : Int64} {cash : Nat → Int64} {debts : Nat → Int32} {fallen : Nat → Int32} {rounds : Int32} {shares : Nat → Int64} {under : Int64} {table : Nat → Int64} {right : Nat → Int64} {tried : Nat → Int64} {falls : Nat → Int32} {rsize : Int32} {ringOf : Nat → Int32} {row : Nat → Int32} {found : Int32} {hh : Int64} (h : OK Z X cc own nL R) {i : Int32} {x : Int32} {j : Nat} (hd : decode cc pc = .ok (.bastore, 1)) (hi : i = nI j) (hj : j < 4) (hp : pc + 1 = pc') (k : GG Z X pc' L S (wR Z n toll paid cash debts fallen rounds shares under table right tried (upd falls j (vp_nar .boolean x)) rsize ringOf row found hh)) : GG Z X pc L (.int x :: .int i :: .ref (Z.2.2 18) :: S) (wR Z n toll paid cash debts fallen rounds shares under table right tried falls rsize ringOf row found hh) := g_zas (q0 := 8) h hd rfl hi hj (by decide) hp k
theorem al_19 {Z : ZT} {X : XT} {cc : ByteArray} {nL : Nat} {R : Room} {pc pc' : Nat} {L : List (Option Value)} {S : List Value} {own : String} {n : Int32} {toll : Int32} {paid : Int64} {cash : Nat → Int64} {debts : Nat → Int32} {fallen : Nat → Int32} {rounds : Int32} {shares : Nat → Int64} {under : Int64} {table : Nat → Int64} {right : Nat → Int64} {tried : Nat → Int64} {falls : Nat → Int32} {rsize : Int32} {ringOf : Nat → Int32} {row : Nat → Int32} {found : Int32} {hh : Int64} (h : OK Z X cc own nL R) {i : Int32} {j : Nat} (hd : decode cc pc = .ok (.iaload, 1)) (hi : i = nI j) (hj : j < 4) (hp : pc + 1 = pc') (k : GG Z X pc' L (.int (ringOf j) :: S) (wR Z n toll paid cash debts fallen rounds shares under table right tried falls rsize ringOf row found hh)) : GG Z X pc L (.int i :: .ref (Z.2.2 19) :: S) (wR Z n toll paid cash debts fallen rounds shares under table right tried falls rsize ringOf row found hh) := g_ial (q0 := 9) h hd rfl hi hj (by decide) hp k
theorem as_19 {Z : ZT} {X : XT} {cc : ByteArray} {nL : Nat} {R : Room} {pc pc' : Nat} {L : List (Option Value)} {S : List Value} {own : String} {n : Int32} {toll : Int32} {paid : Int64} {cash : Nat → Int64} {debts : Nat → Int32} {fallen : Nat → Int32} {rounds : Int32} {shares : Nat → Int64} {under : Int64} {table : Nat → Int64} {right : Nat → Int64} {tried : Nat → Int64} {falls : Nat → Int32} {rsize : Int32} {ringOf : Nat → Int32} {row : Nat → Int32} {found : Int32} {hh : Int64} (h : OK Z X cc own nL R) {i : Int32} {x : Int32} {j : Nat} (hd : decode cc pc = .ok (.iastore, 1)) (hi : i = nI j) (hj : j < 4) (hp : pc + 1 = pc') (k : GG Z X pc' L S (wR Z n toll paid cash debts fallen rounds shares under table right tried falls rsize (upd ringOf j x) row found hh)) : GG Z X pc L (.int x :: .int i :: .ref (Z.2.2 19) :: S) (wR Z n toll paid cash debts fallen rounds shares under table right tried falls rsize ringOf row found hh) := g_ias (q0 := 9) h hd rfl hi hj (by decide) hp k
theorem al_20 {Z : ZT} {X : XT} {cc : ByteArray} {nL : Nat} {R : Room} {pc pc' : Nat} {L : List (Option Value)} {S : List Value} {own : String} {n : Int32} {toll : Int32} {paid : Int64} {cash : Nat → Int64} {debts : Nat → Int32} {fallen : Nat → Int32} {rounds : Int32} {shares : Nat → Int64} {under : Int64} {table : Nat → Int64} {right : Nat → Int64} {tried : Nat → Int64} {falls : Nat → Int32} {rsize : Int32} {ringOf : Nat → Int32} {row : Nat → Int32} {found : Int32} {hh : Int64} (h : OK Z X cc own nL R) {i : Int32} {j : Nat} (hd : decode cc pc = .ok (.iaload, 1)) (hi : i = nI j) (hj : j < 4) (hp : pc + 1 = pc') (k : GG Z X pc' L (.int (row j) :: S) (wR Z n toll paid cash debts fallen rounds shares under table right tried falls rsize ringOf row found hh)) : GG Z X pc L (.int i :: .ref (Z.2.2 20) :: S) (wR Z n toll paid cash debts fallen rounds shares under table right tried falls rsize ringOf row found hh) := g_ial (q0 := 10) h hd rfl hi hj (by decide) hp k
theorem as_20 {Z : ZT} {X : XT} {cc : ByteArray} {nL : Nat} {R : Room} {pc pc' : Nat} {L : List (Option Value)} {S : List Value} {own : String} {n : Int32} {toll : Int32} {paid : Int64} {cash : Nat → Int64} {debts : Nat → Int32} {fallen : Nat → Int32} {rounds : Int32} {shares : Nat → Int64} {under : Int64} {table : Nat → Int64} {right : Nat → Int64} {tried : Nat → Int64} {falls : Nat → Int32} {rsize : Int32} {ringOf : Nat → Int32} {row : Nat → Int32} {found : Int32} {hh : Int64} (h : OK Z X cc own nL R) {i : Int32} {x : Int32} {j : Nat} (hd : decode cc pc = .ok (.iastore, 1)) (hi : i = nI j) (hj : j < 4) (hp : pc + 1 = pc') (k : GG Z X pc' L S (wR Z n toll paid cash debts fallen rounds shares under table right tried falls rsize ringOf (upd row j x) found hh)) : GG Z X pc L (.int x :: .int i :: .ref (Z.2.2 20) :: S) (wR Z n toll paid cash debts fallen rounds shares under table right tried falls rsize ringOf row found hh) := g_ias (q0 := 10) h hd rfl hi hj (by decide) hp k
theorem cf_L_13 : CF 0 RL 13 yX3_houses cX3_houses 2 (some .int) 1 := ⟨⟨mG 123 (by decide +kernel) rfl, mG 124 (by decide +kernel) rfl, mG 125 (by decide +kernel) rfl⟩, mG 28 (by decide +kernel) rfl, mG 126 (by decide +kernel) rfl, ⟨by decide +kernel, by decide +kernel⟩, by decide +kernel⟩
theorem cf_X3_32 : CF 0 RX3 32 yX0_open cX0_open 3 none 1 := ⟨⟨mG 127 (by decide +kernel) rfl, mG 128 (by decide +kernel) rfl, mG 129 (by decide +kernel) rfl⟩, mG 29 (by decide +kernel) rfl, mG 130 (by decide +kernel) rfl, ⟨by decide +kernel, by decide +kernel⟩, by decide +kernel⟩
theorem cf_X0_28 : CF 2 RX0 28 yX3_put cX3_put 3 none 3 := ⟨⟨by decide +kernel, mG 132 (by decide +kernel) rfl⟩, mG 28 (by decide +kernel) rfl, mG 133 (by decide +kernel) rfl, ⟨by decide +kernel, by decide +kernel⟩, by decide +kernel⟩
theorem cf_L_18 : CF 0 RL 18 yX3_cash cX3_cash 4 (some .int) 2 := ⟨⟨mG 134 (by decide +kernel) rfl, mG 135 (by decide +kernel) rfl, mG 136 (by decide +kernel) rfl⟩, mG 28 (by decide +kernel) rfl, mG 137 (by decide +kernel) rfl, ⟨by decide +kernel, by decide +kernel⟩, by decide +kernel⟩
theorem cf_X3_36 : CF 0 RX3 36 yX0_isHouse cX0_isHouse 2 (some .boolean) 1 := ⟨⟨mG 138 (by decide +kernel) rfl, mG 139 (by decide +kernel) rfl, mG 140 (by decide +kernel) rfl⟩, mG 29 (by decide +kernel) rfl, mG 141 (by decide +kernel) rfl, ⟨by decide +kernel, by decide +kernel⟩, by decide +kernel⟩
theorem cf_X3_40 : CF 0 RX3 40 yX0_coins cX0_coins 2 (some .int) 1 := ⟨⟨mG 142 (by decide +kernel) rfl, mG 143 (by decide +kernel) rfl, mG 144 (by decide +kernel) rfl⟩, mG 29 (by decide +kernel) rfl, mG 145 (by decide +kernel) rfl, ⟨by decide +kernel, by decide +kernel⟩, by decide +kernel⟩
theorem cf_X0_32 : CF 2 RX0 32 yX3_at cX3_at 2 (some .int) 2 := ⟨⟨by decide +kernel, mG 147 (by decide +kernel) rfl⟩, mG 28 (by decide +kernel) rfl, mG 148 (by decide +kernel) rfl, ⟨by decide +kernel, by decide +kernel⟩, by decide +kernel⟩
theorem cf_X3_44 : CF 0 RX3 44 yX0_setCoins cX0_setCoins 3 none 2 := ⟨⟨mG 149 (by decide +kernel) rfl, mG 150 (by decide +kernel) rfl, mG 151 (by decide +kernel) rfl⟩, mG 29 (by decide +kernel) rfl, mG 152 (by decide +kernel) rfl, ⟨by decide +kernel, by decide +kernel⟩, by decide +kernel⟩
theorem cf_L_23 : CF 0 RL 23 yX3_owe cX3_owe 6 (some .int) 3 := ⟨⟨mG 153 (by decide +kernel) rfl, mG 154 (by decide +kernel) rfl, mG 155 (by decide +kernel) rfl⟩, mG 28 (by decide +kernel) rfl, mG 156 (by decide +kernel) rfl, ⟨by decide +kernel, by decide +kernel⟩, by decide +kernel⟩
theorem cf_X3_48 : CF 0 RX3 48 yX0_isPayee cX0_isPayee 2 (some .boolean) 1 := ⟨⟨mG 157 (by decide +kernel) rfl, mG 158 (by decide +kernel) rfl, mG 159 (by decide +kernel) rfl⟩, mG 29 (by decide +kernel) rfl, mG 160 (by decide +kernel) rfl, ⟨by decide +kernel, by decide +kernel⟩, by decide +kernel⟩
theorem cf_X3_51 : CF 0 RX3 51 yX0_columnOf cX0_columnOf 2 (some .int) 1 := ⟨⟨mG 161 (by decide +kernel) rfl, mG 162 (by decide +kernel) rfl, mG 163 (by decide +kernel) rfl⟩, mG 29 (by decide +kernel) rfl, mG 164 (by decide +kernel) rfl, ⟨by decide +kernel, by decide +kernel⟩, by decide +kernel⟩
theorem cf_X3_54 : CF 0 RX3 54 yX0_owed cX0_owed 3 (some .int) 2 := ⟨⟨mG 165 (by decide +kernel) rfl, mG 166 (by decide +kernel) rfl, mG 167 (by decide +kernel) rfl⟩, mG 29 (by decide +kernel) rfl, mG 168 (by decide +kernel) rfl, ⟨by decide +kernel, by decide +kernel⟩, by decide +kernel⟩
theorem cf_X3_58 : CF 0 RX3 58 yX0_setOwed cX0_setOwed 4 none 3 := ⟨⟨mG 169 (by decide +kernel) rfl, mG 170 (by decide +kernel) rfl, mG 171 (by decide +kernel) rfl⟩, mG 29 (by decide +kernel) rfl, mG 172 (by decide +kernel) rfl, ⟨by decide +kernel, by decide +kernel⟩, by decide +kernel⟩
theorem cf_L_28 : CF 0 RL 28 yX3_toll cX3_toll 3 (some .int) 1 := ⟨⟨mG 173 (by decide +kernel) rfl, mG 174 (by decide +kernel) rfl, mG 175 (by decide +kernel) rfl⟩, mG 28 (by decide +kernel) rfl, mG 176 (by decide +kernel) rfl, ⟨by decide +kernel, by decide +kernel⟩, by decide +kernel⟩
theorem cf_L_32 : CF 0 RL 32 yX3_cashOf cX3_cashOf 2 (some .int) 1 := ⟨⟨mG 177 (by decide +kernel) rfl, mG 178 (by decide +kernel) rfl, mG 179 (by decide +kernel) rfl⟩, mG 28 (by decide +kernel) rfl, mG 180 (by decide +kernel) rfl, ⟨by decide +kernel, by decide +kernel⟩, by decide +kernel⟩
theorem cf_L_36 : CF 0 RL 36 yX3_debt cX3_debt 3 (some .int) 2 := ⟨⟨mG 181 (by decide +kernel) rfl, mG 182 (by decide +kernel) rfl, mG 183 (by decide +kernel) rfl⟩, mG 28 (by decide +kernel) rfl, mG 184 (by decide +kernel) rfl, ⟨by decide +kernel, by decide +kernel⟩, by decide +kernel⟩
theorem cf_L_40 : CF 0 RL 40 yX3_owes cX3_owes 2 (some .int) 1 := ⟨⟨mG 185 (by decide +kernel) rfl, mG 186 (by decide +kernel) rfl, mG 187 (by decide +kernel) rfl⟩, mG 28 (by decide +kernel) rfl, mG 188 (by decide +kernel) rfl, ⟨by decide +kernel, by decide +kernel⟩, by decide +kernel⟩
theorem cf_X3_66 : CF 0 RX3 66 yX0_allOwedBy cX0_allOwedBy 4 (some .int) 1 := ⟨⟨mG 189 (by decide +kernel) rfl, mG 190 (by decide +kernel) rfl, mG 191 (by decide +kernel) rfl⟩, mG 29 (by decide +kernel) rfl, mG 192 (by decide +kernel) rfl, ⟨by decide +kernel, by decide +kernel⟩, by decide +kernel⟩
theorem cf_X0_36 : CF 0 RX0 36 yX0_owed cX0_owed 3 (some .int) 2 := ⟨⟨mG 193 (by decide +kernel) rfl, mG 166 (by decide +kernel) rfl, mG 167 (by decide +kernel) rfl⟩, mG 29 (by decide +kernel) rfl, mG 168 (by decide +kernel) rfl, ⟨by decide +kernel, by decide +kernel⟩, by decide +kernel⟩
theorem cf_L_44 : CF 0 RL 44 yX3_falls cX3_falls 2 (some .int) 1 := ⟨⟨mG 194 (by decide +kernel) rfl, mG 195 (by decide +kernel) rfl, mG 196 (by decide +kernel) rfl⟩, mG 28 (by decide +kernel) rfl, mG 197 (by decide +kernel) rfl, ⟨by decide +kernel, by decide +kernel⟩, by decide +kernel⟩
theorem cf_X3_69 : CF 0 RX3 69 yX1_settle cX1_settle 3 none 1 := ⟨⟨mG 198 (by decide +kernel) rfl, mG 199 (by decide +kernel) rfl, mG 200 (by decide +kernel) rfl⟩, mG 30 (by decide +kernel) rfl, mG 201 (by decide +kernel) rfl, ⟨by decide +kernel, by decide +kernel⟩, by decide +kernel⟩
theorem cf_X1_40 : CF 2 RX1 40 yX3_put cX3_put 3 none 3 := ⟨⟨by decide +kernel, mG 132 (by decide +kernel) rfl⟩, mG 28 (by decide +kernel) rfl, mG 133 (by decide +kernel) rfl, ⟨by decide +kernel, by decide +kernel⟩, by decide +kernel⟩
theorem cf_X1_44 : CF 2 RX1 44 yX3_putLong cX3_putLong 4 none 3 := ⟨⟨by decide +kernel, mG 204 (by decide +kernel) rfl⟩, mG 28 (by decide +kernel) rfl, mG 205 (by decide +kernel) rfl, ⟨by decide +kernel, by decide +kernel⟩, by decide +kernel⟩
theorem cf_X1_48 : CF 0 RX1 48 yX1_anyFallIn cX1_anyFallIn 4 (some .boolean) 1 := ⟨⟨mG 206 (by decide +kernel) rfl, mG 208 (by decide +kernel) rfl, mG 0 (by decide +kernel) rfl⟩, mG 30 (by decide +kernel) rfl, mG 209 (by decide +kernel) rfl, ⟨by decide +kernel, by decide +kernel⟩, by decide +kernel⟩
theorem cf_X1_55 : CF 0 RX1 55 yX1_isFallen cX1_isFallen 2 (some .boolean) 1 := ⟨⟨mG 210 (by decide +kernel) rfl, mG 212 (by decide +kernel) rfl, mG 1 (by decide +kernel) rfl⟩, mG 30 (by decide +kernel) rfl, mG 213 (by decide +kernel) rfl, ⟨by decide +kernel, by decide +kernel⟩, by decide +kernel⟩
theorem cf_X1_68 : CF 0 RX1 68 yX1_roundOfFall cX1_roundOfFall 2 (some .int) 1 := ⟨⟨mG 214 (by decide +kernel) rfl, mG 215 (by decide +kernel) rfl, mG 216 (by decide +kernel) rfl⟩, mG 30 (by decide +kernel) rfl, mG 217 (by decide +kernel) rfl, ⟨by decide +kernel, by decide +kernel⟩, by decide +kernel⟩
theorem cf_X1_103 : CF 2 RX1 103 yX3_at cX3_at 2 (some .int) 2 := ⟨⟨by decide +kernel, mG 147 (by decide +kernel) rfl⟩, mG 28 (by decide +kernel) rfl, mG 148 (by decide +kernel) rfl, ⟨by decide +kernel, by decide +kernel⟩, by decide +kernel⟩
theorem cf_X1_58 : CF 0 RX1 58 yX1_grossAbove cX1_grossAbove 5 (some .long) 1 := ⟨⟨mG 219 (by decide +kernel) rfl, mG 220 (by decide +kernel) rfl, mG 221 (by decide +kernel) rfl⟩, mG 30 (by decide +kernel) rfl, mG 222 (by decide +kernel) rfl, ⟨by decide +kernel, by decide +kernel⟩, by decide +kernel⟩
theorem cf_X1_88 : CF 0 RX1 88 yX1_usableCoins cX1_usableCoins 2 (some .int) 1 := ⟨⟨mG 223 (by decide +kernel) rfl, mG 225 (by decide +kernel) rfl, mG 2 (by decide +kernel) rfl⟩, mG 30 (by decide +kernel) rfl, mG 226 (by decide +kernel) rfl, ⟨by decide +kernel, by decide +kernel⟩, by decide +kernel⟩
theorem cf_X1_71 : CF 0 RX1 71 yX0_coins cX0_coins 2 (some .int) 1 := ⟨⟨mG 227 (by decide +kernel) rfl, mG 143 (by decide +kernel) rfl, mG 144 (by decide +kernel) rfl⟩, mG 29 (by decide +kernel) rfl, mG 145 (by decide +kernel) rfl, ⟨by decide +kernel, by decide +kernel⟩, by decide +kernel⟩
theorem cf_X1_107 : CF 0 RX1 107 yX1_shareAbove cX1_shareAbove 2 (some .long) 1 := ⟨⟨mG 228 (by decide +kernel) rfl, mG 229 (by decide +kernel) rfl, mG 230 (by decide +kernel) rfl⟩, mG 30 (by decide +kernel) rfl, mG 231 (by decide +kernel) rfl, ⟨by decide +kernel, by decide +kernel⟩, by decide +kernel⟩
theorem cf_X1_99 : CF 2 RX1 99 yX3_longAt cX3_longAt 2 (some .long) 2 := ⟨⟨by decide +kernel, mG 233 (by decide +kernel) rfl⟩, mG 28 (by decide +kernel) rfl, mG 234 (by decide +kernel) rfl, ⟨by decide +kernel, by decide +kernel⟩, by decide +kernel⟩
theorem cf_X1_84 : CF 0 RX1 84 yX0_owed cX0_owed 3 (some .int) 2 := ⟨⟨mG 235 (by decide +kernel) rfl, mG 166 (by decide +kernel) rfl, mG 167 (by decide +kernel) rfl⟩, mG 29 (by decide +kernel) rfl, mG 168 (by decide +kernel) rfl, ⟨by decide +kernel, by decide +kernel⟩, by decide +kernel⟩
theorem cf_X1_62 : CF 0 RX1 62 yX0_allOwedBy cX0_allOwedBy 4 (some .int) 1 := ⟨⟨mG 236 (by decide +kernel) rfl, mG 190 (by decide +kernel) rfl, mG 191 (by decide +kernel) rfl⟩, mG 29 (by decide +kernel) rfl, mG 192 (by decide +kernel) rfl, ⟨by decide +kernel, by decide +kernel⟩, by decide +kernel⟩
theorem cf_X1_52 : CF 0 RX1 52 yX1_solveShares cX1_solveShares 2 none 0 := ⟨⟨mG 237 (by decide +kernel) rfl, mG 239 (by decide +kernel) rfl, mG 3 (by decide +kernel) rfl⟩, mG 30 (by decide +kernel) rfl, mG 240 (by decide +kernel) rfl, ⟨by decide +kernel, by decide +kernel⟩, by decide +kernel⟩
theorem cf_X1_74 : CF 0 RX1 74 yX1_writeEquation cX1_writeEquation 5 none 1 := ⟨⟨mG 241 (by decide +kernel) rfl, mG 243 (by decide +kernel) rfl, mG 4 (by decide +kernel) rfl⟩, mG 30 (by decide +kernel) rfl, mG 244 (by decide +kernel) rfl, ⟨by decide +kernel, by decide +kernel⟩, by decide +kernel⟩
theorem cf_X1_78 : CF 0 RX1 78 yX1_determinant cX1_determinant 2 (some .long) 1 := ⟨⟨mG 245 (by decide +kernel) rfl, mG 247 (by decide +kernel) rfl, mG 5 (by decide +kernel) rfl⟩, mG 30 (by decide +kernel) rfl, mG 248 (by decide +kernel) rfl, ⟨by decide +kernel, by decide +kernel⟩, by decide +kernel⟩
theorem cf_X1_91 : CF 0 RX1 91 yX1_minor cX1_minor 5 (some .long) 4 := ⟨⟨mG 249 (by decide +kernel) rfl, mG 251 (by decide +kernel) rfl, mG 6 (by decide +kernel) rfl⟩, mG 30 (by decide +kernel) rfl, mG 252 (by decide +kernel) rfl, ⟨by decide +kernel, by decide +kernel⟩, by decide +kernel⟩
theorem cf_X1_95 : CF 0 RX1 95 yX1_entry cX1_entry 4 (some .long) 3 := ⟨⟨mG 253 (by decide +kernel) rfl, mG 255 (by decide +kernel) rfl, mG 7 (by decide +kernel) rfl⟩, mG 30 (by decide +kernel) rfl, mG 256 (by decide +kernel) rfl, ⟨by decide +kernel, by decide +kernel⟩, by decide +kernel⟩
theorem cf_X3_72 : CF 0 RX3 72 yX1_roundOfFall cX1_roundOfFall 2 (some .int) 1 := ⟨⟨mG 257 (by decide +kernel) rfl, mG 215 (by decide +kernel) rfl, mG 216 (by decide +kernel) rfl⟩, mG 30 (by decide +kernel) rfl, mG 217 (by decide +kernel) rfl, ⟨by decide +kernel, by decide +kernel⟩, by decide +kernel⟩
theorem cf_L_48 : CF 0 RL 48 yX3_rounds cX3_rounds 1 (some .int) 0 := ⟨⟨mG 258 (by decide +kernel) rfl, mG 259 (by decide +kernel) rfl, mG 260 (by decide +kernel) rfl⟩, mG 28 (by decide +kernel) rfl, mG 261 (by decide +kernel) rfl, ⟨by decide +kernel, by decide +kernel⟩, by decide +kernel⟩
theorem cf_L_53 : CF 0 RL 53 yX3_share cX3_share 3 (some .long) 2 := ⟨⟨mG 262 (by decide +kernel) rfl, mG 263 (by decide +kernel) rfl, mG 264 (by decide +kernel) rfl⟩, mG 28 (by decide +kernel) rfl, mG 265 (by decide +kernel) rfl, ⟨by decide +kernel, by decide +kernel⟩, by decide +kernel⟩
theorem cf_X3_80 : CF 1 RX3 80 yX3_isPart cX3_isPart 1 (some .boolean) 1 := ⟨⟨mG 267 (by decide +kernel) rfl, mG 268 (by decide +kernel) rfl⟩, mG 28 (by decide +kernel) rfl, mG 269 (by decide +kernel) rfl, ⟨by decide +kernel, by decide +kernel⟩, by decide +kernel⟩
theorem cf_X3_85 : CF 0 RX3 85 yX1_shareAbove cX1_shareAbove 2 (some .long) 1 := ⟨⟨mG 271 (by decide +kernel) rfl, mG 229 (by decide +kernel) rfl, mG 230 (by decide +kernel) rfl⟩, mG 30 (by decide +kernel) rfl, mG 231 (by decide +kernel) rfl, ⟨by decide +kernel, by decide +kernel⟩, by decide +kernel⟩
theorem cf_X3_93 : CF 1 RX3 93 yX3_lowestTerms cX3_lowestTerms 7 (some .long) 3 := ⟨⟨mG 272 (by decide +kernel) rfl, mG 273 (by decide +kernel) rfl⟩, mG 28 (by decide +kernel) rfl, mG 274 (by decide +kernel) rfl, ⟨by decide +kernel, by decide +kernel⟩, by decide +kernel⟩
theorem cf_X3_154 : CF 1 RX3 154 yX3_commonDivisor cX3_commonDivisor 11 (some .long) 2 := ⟨⟨mG 275 (by decide +kernel) rfl, mG 276 (by decide +kernel) rfl⟩, mG 28 (by decide +kernel) rfl, mG 277 (by decide +kernel) rfl, ⟨by decide +kernel, by decide +kernel⟩, by decide +kernel⟩
theorem cf_L_58 : CF 0 RL 58 yX3_gross cX3_gross 3 (some .long) 2 := ⟨⟨mG 281 (by decide +kernel) rfl, mG 282 (by decide +kernel) rfl, mG 283 (by decide +kernel) rfl⟩, mG 28 (by decide +kernel) rfl, mG 284 (by decide +kernel) rfl, ⟨by decide +kernel, by decide +kernel⟩, by decide +kernel⟩
theorem cf_X3_97 : CF 0 RX3 97 yX1_grossAbove cX1_grossAbove 5 (some .long) 1 := ⟨⟨mG 285 (by decide +kernel) rfl, mG 220 (by decide +kernel) rfl, mG 221 (by decide +kernel) rfl⟩, mG 30 (by decide +kernel) rfl, mG 222 (by decide +kernel) rfl, ⟨by decide +kernel, by decide +kernel⟩, by decide +kernel⟩
theorem cf_L_62 : CF 0 RL 62 yX3_pays cX3_pays 6 (some .long) 3 := ⟨⟨mG 286 (by decide +kernel) rfl, mG 287 (by decide +kernel) rfl, mG 288 (by decide +kernel) rfl⟩, mG 28 (by decide +kernel) rfl, mG 289 (by decide +kernel) rfl, ⟨by decide +kernel, by decide +kernel⟩, by decide +kernel⟩
theorem cf_L_67 : CF 0 RL 67 yX3_left cX3_left 3 (some .long) 2 := ⟨⟨mG 290 (by decide +kernel) rfl, mG 291 (by decide +kernel) rfl, mG 292 (by decide +kernel) rfl⟩, mG 28 (by decide +kernel) rfl, mG 293 (by decide +kernel) rfl, ⟨by decide +kernel, by decide +kernel⟩, by decide +kernel⟩
theorem cf_X3_100 : CF 0 RX3 100 yX1_leftAbove cX1_leftAbove 2 (some .long) 1 := ⟨⟨mG 294 (by decide +kernel) rfl, mG 295 (by decide +kernel) rfl, mG 296 (by decide +kernel) rfl⟩, mG 30 (by decide +kernel) rfl, mG 297 (by decide +kernel) rfl, ⟨by decide +kernel, by decide +kernel⟩, by decide +kernel⟩
theorem cf_L_71 : CF 0 RL 71 yX3_lost cX3_lost 2 (some .long) 1 := ⟨⟨mG 298 (by decide +kernel) rfl, mG 299 (by decide +kernel) rfl, mG 300 (by decide +kernel) rfl⟩, mG 28 (by decide +kernel) rfl, mG 301 (by decide +kernel) rfl, ⟨by decide +kernel, by decide +kernel⟩, by decide +kernel⟩
theorem cf_X3_103 : CF 0 RX3 103 yX1_lostAbove cX1_lostAbove 4 (some .long) 0 := ⟨⟨mG 302 (by decide +kernel) rfl, mG 303 (by decide +kernel) rfl, mG 304 (by decide +kernel) rfl⟩, mG 30 (by decide +kernel) rfl, mG 305 (by decide +kernel) rfl, ⟨by decide +kernel, by decide +kernel⟩, by decide +kernel⟩
theorem cf_L_76 : CF 0 RL 76 yX3_drag cX3_drag 2 (some .int) 1 := ⟨⟨mG 307 (by decide +kernel) rfl, mG 308 (by decide +kernel) rfl, mG 309 (by decide +kernel) rfl⟩, mG 28 (by decide +kernel) rfl, mG 310 (by decide +kernel) rfl, ⟨by decide +kernel, by decide +kernel⟩, by decide +kernel⟩
theorem cf_X3_109 : CF 0 RX3 109 yX1_fallenCount cX1_fallenCount 3 (some .int) 0 := ⟨⟨mG 311 (by decide +kernel) rfl, mG 312 (by decide +kernel) rfl, mG 313 (by decide +kernel) rfl⟩, mG 30 (by decide +kernel) rfl, mG 314 (by decide +kernel) rfl, ⟨by decide +kernel, by decide +kernel⟩, by decide +kernel⟩
theorem cf_L_80 : CF 0 RL 80 yX3_help cX3_help 2 (some .int) 1 := ⟨⟨mG 315 (by decide +kernel) rfl, mG 316 (by decide +kernel) rfl, mG 317 (by decide +kernel) rfl⟩, mG 28 (by decide +kernel) rfl, mG 318 (by decide +kernel) rfl, ⟨by decide +kernel, by decide +kernel⟩, by decide +kernel⟩
theorem cf_X3_113 : CF 0 RX3 113 yX0_helpNeeded cX0_helpNeeded 3 (some .int) 1 := ⟨⟨mG 319 (by decide +kernel) rfl, mG 320 (by decide +kernel) rfl, mG 321 (by decide +kernel) rfl⟩, mG 29 (by decide +kernel) rfl, mG 322 (by decide +kernel) rfl, ⟨by decide +kernel, by decide +kernel⟩, by decide +kernel⟩
theorem cf_X0_50 : CF 0 RX0 50 yX0_shortfall cX0_shortfall 2 (some .int) 1 := ⟨⟨mG 323 (by decide +kernel) rfl, mG 325 (by decide +kernel) rfl, mG 8 (by decide +kernel) rfl⟩, mG 29 (by decide +kernel) rfl, mG 326 (by decide +kernel) rfl, ⟨by decide +kernel, by decide +kernel⟩, by decide +kernel⟩
theorem cf_X0_44 : CF 0 RX0 44 yX0_allOwedBy cX0_allOwedBy 4 (some .int) 1 := ⟨⟨mG 327 (by decide +kernel) rfl, mG 190 (by decide +kernel) rfl, mG 191 (by decide +kernel) rfl⟩, mG 29 (by decide +kernel) rfl, mG 192 (by decide +kernel) rfl, ⟨by decide +kernel, by decide +kernel⟩, by decide +kernel⟩
theorem cf_X0_40 : CF 0 RX0 40 yX0_coins cX0_coins 2 (some .int) 1 := ⟨⟨mG 328 (by decide +kernel) rfl, mG 143 (by decide +kernel) rfl, mG 144 (by decide +kernel) rfl⟩, mG 29 (by decide +kernel) rfl, mG 145 (by decide +kernel) rfl, ⟨by decide +kernel, by decide +kernel⟩, by decide +kernel⟩
theorem cf_X0_47 : CF 0 RX0 47 yX0_allOwedTo cX0_allOwedTo 4 (some .int) 1 := ⟨⟨mG 329 (by decide +kernel) rfl, mG 330 (by decide +kernel) rfl, mG 331 (by decide +kernel) rfl⟩, mG 29 (by decide +kernel) rfl, mG 332 (by decide +kernel) rfl, ⟨by decide +kernel, by decide +kernel⟩, by decide +kernel⟩
theorem cf_L_84 : CF 0 RL 84 yX3_best cX3_best 5 (some .int) 0 := ⟨⟨mG 336 (by decide +kernel) rfl, mG 337 (by decide +kernel) rfl, mG 338 (by decide +kernel) rfl⟩, mG 28 (by decide +kernel) rfl, mG 339 (by decide +kernel) rfl, ⟨by decide +kernel, by decide +kernel⟩, by decide +kernel⟩
theorem cf_L_88 : CF 0 RL 88 yX3_net cX3_net 2 (some .int) 1 := ⟨⟨mG 340 (by decide +kernel) rfl, mG 341 (by decide +kernel) rfl, mG 342 (by decide +kernel) rfl⟩, mG 28 (by decide +kernel) rfl, mG 343 (by decide +kernel) rfl, ⟨by decide +kernel, by decide +kernel⟩, by decide +kernel⟩
theorem cf_X3_119 : CF 0 RX3 119 yX0_allOwedTo cX0_allOwedTo 4 (some .int) 1 := ⟨⟨mG 344 (by decide +kernel) rfl, mG 330 (by decide +kernel) rfl, mG 331 (by decide +kernel) rfl⟩, mG 29 (by decide +kernel) rfl, mG 332 (by decide +kernel) rfl, ⟨by decide +kernel, by decide +kernel⟩, by decide +kernel⟩
theorem cf_L_92 : CF 0 RL 92 yX3_rings cX3_rings 1 (some .int) 0 := ⟨⟨mG 346 (by decide +kernel) rfl, mG 347 (by decide +kernel) rfl, mG 348 (by decide +kernel) rfl⟩, mG 28 (by decide +kernel) rfl, mG 349 (by decide +kernel) rfl, ⟨by decide +kernel, by decide +kernel⟩, by decide +kernel⟩
theorem cf_X3_123 : CF 0 RX3 123 yX2_howMany cX2_howMany 3 (some .int) 0 := ⟨⟨mG 350 (by decide +kernel) rfl, mG 351 (by decide +kernel) rfl, mG 352 (by decide +kernel) rfl⟩, mG 31 (by decide +kernel) rfl, mG 353 (by decide +kernel) rfl, ⟨by decide +kernel, by decide +kernel⟩, by decide +kernel⟩
theorem cf_X2_19 : CF 2 RX2 19 yX3_at cX3_at 2 (some .int) 2 := ⟨⟨by decide +kernel, mG 147 (by decide +kernel) rfl⟩, mG 28 (by decide +kernel) rfl, mG 148 (by decide +kernel) rfl, ⟨by decide +kernel, by decide +kernel⟩, by decide +kernel⟩
theorem cf_X2_23 : CF 0 RX2 23 yX2_leastDebt cX2_leastDebt 7 (some .int) 1 := ⟨⟨mG 357 (by decide +kernel) rfl, mG 359 (by decide +kernel) rfl, mG 9 (by decide +kernel) rfl⟩, mG 31 (by decide +kernel) rfl, mG 360 (by decide +kernel) rfl, ⟨by decide +kernel, by decide +kernel⟩, by decide +kernel⟩
theorem cf_X2_27 : CF 0 RX2 27 yX2_firstOf cX2_firstOf 2 (some .int) 1 := ⟨⟨mG 361 (by decide +kernel) rfl, mG 363 (by decide +kernel) rfl, mG 10 (by decide +kernel) rfl⟩, mG 31 (by decide +kernel) rfl, mG 364 (by decide +kernel) rfl, ⟨by decide +kernel, by decide +kernel⟩, by decide +kernel⟩
theorem cf_X2_30 : CF 0 RX2 30 yX2_sizeOf cX2_sizeOf 2 (some .int) 1 := ⟨⟨mG 365 (by decide +kernel) rfl, mG 366 (by decide +kernel) rfl, mG 367 (by decide +kernel) rfl⟩, mG 31 (by decide +kernel) rfl, mG 368 (by decide +kernel) rfl, ⟨by decide +kernel, by decide +kernel⟩, by decide +kernel⟩
theorem cf_X2_33 : CF 0 RX2 33 yX0_owed cX0_owed 3 (some .int) 2 := ⟨⟨mG 369 (by decide +kernel) rfl, mG 166 (by decide +kernel) rfl, mG 167 (by decide +kernel) rfl⟩, mG 29 (by decide +kernel) rfl, mG 168 (by decide +kernel) rfl, ⟨by decide +kernel, by decide +kernel⟩, by decide +kernel⟩
theorem cf_L_96 : CF 0 RL 96 yX3_ring cX3_ring 2 (some .int) 1 := ⟨⟨mG 373 (by decide +kernel) rfl, mG 374 (by decide +kernel) rfl, mG 375 (by decide +kernel) rfl⟩, mG 28 (by decide +kernel) rfl, mG 376 (by decide +kernel) rfl, ⟨by decide +kernel, by decide +kernel⟩, by decide +kernel⟩
theorem cf_X3_126 : CF 0 RX3 126 yX2_figuresOf cX2_figuresOf 5 (some .int) 1 := ⟨⟨mG 377 (by decide +kernel) rfl, mG 378 (by decide +kernel) rfl, mG 379 (by decide +kernel) rfl⟩, mG 31 (by decide +kernel) rfl, mG 380 (by decide +kernel) rfl, ⟨by decide +kernel, by decide +kernel⟩, by decide +kernel⟩
theorem cf_L_100 : CF 0 RL 100 yX3_cancel cX3_cancel 2 (some .int) 0 := ⟨⟨mG 381 (by decide +kernel) rfl, mG 382 (by decide +kernel) rfl, mG 383 (by decide +kernel) rfl⟩, mG 28 (by decide +kernel) rfl, mG 384 (by decide +kernel) rfl, ⟨by decide +kernel, by decide +kernel⟩, by decide +kernel⟩
theorem cf_X3_129 : CF 0 RX3 129 yX2_lessen cX2_lessen 7 (some .int) 1 := ⟨⟨mG 385 (by decide +kernel) rfl, mG 386 (by decide +kernel) rfl, mG 387 (by decide +kernel) rfl⟩, mG 31 (by decide +kernel) rfl, mG 388 (by decide +kernel) rfl, ⟨by decide +kernel, by decide +kernel⟩, by decide +kernel⟩
theorem cf_X2_44 : CF 0 RX2 44 yX0_setOwed cX0_setOwed 4 none 3 := ⟨⟨mG 389 (by decide +kernel) rfl, mG 170 (by decide +kernel) rfl, mG 171 (by decide +kernel) rfl⟩, mG 29 (by decide +kernel) rfl, mG 172 (by decide +kernel) rfl, ⟨by decide +kernel, by decide +kernel⟩, by decide +kernel⟩
theorem cf_L_104 : CF 0 RL 104 yX3_cancelAll cX3_cancelAll 5 (some .int) 0 := ⟨⟨mG 390 (by decide +kernel) rfl, mG 391 (by decide +kernel) rfl, mG 392 (by decide +kernel) rfl⟩, mG 28 (by decide +kernel) rfl, mG 393 (by decide +kernel) rfl, ⟨by decide +kernel, by decide +kernel⟩, by decide +kernel⟩
theorem cf_X3_132 : CF 0 RX3 132 yX2_sizeOf cX2_sizeOf 2 (some .int) 1 := ⟨⟨mG 394 (by decide +kernel) rfl, mG 366 (by decide +kernel) rfl, mG 367 (by decide +kernel) rfl⟩, mG 31 (by decide +kernel) rfl, mG 368 (by decide +kernel) rfl, ⟨by decide +kernel, by decide +kernel⟩, by decide +kernel⟩
theorem cf_L_108 : CF 0 RL 108 yX3_day cX3_day 1 (some .int) 0 := ⟨⟨mG 395 (by decide +kernel) rfl, mG 396 (by decide +kernel) rfl, mG 397 (by decide +kernel) rfl⟩, mG 28 (by decide +kernel) rfl, mG 398 (by decide +kernel) rfl, ⟨by decide +kernel, by decide +kernel⟩, by decide +kernel⟩
theorem cf_X3_135 : CF 0 RX3 135 yX0_passDay cX0_passDay 4 (some .int) 0 := ⟨⟨mG 399 (by decide +kernel) rfl, mG 400 (by decide +kernel) rfl, mG 401 (by decide +kernel) rfl⟩, mG 29 (by decide +kernel) rfl, mG 402 (by decide +kernel) rfl, ⟨by decide +kernel, by decide +kernel⟩, by decide +kernel⟩
theorem cf_X0_58 : CF 0 RX0 58 yX0_payWhole cX0_payWhole 4 (some .int) 2 := ⟨⟨mG 403 (by decide +kernel) rfl, mG 405 (by decide +kernel) rfl, mG 11 (by decide +kernel) rfl⟩, mG 29 (by decide +kernel) rfl, mG 406 (by decide +kernel) rfl, ⟨by decide +kernel, by decide +kernel⟩, by decide +kernel⟩
theorem cf_X0_61 : CF 0 RX0 61 yX0_setOwed cX0_setOwed 4 none 3 := ⟨⟨mG 407 (by decide +kernel) rfl, mG 170 (by decide +kernel) rfl, mG 171 (by decide +kernel) rfl⟩, mG 29 (by decide +kernel) rfl, mG 172 (by decide +kernel) rfl, ⟨by decide +kernel, by decide +kernel⟩, by decide +kernel⟩
theorem cf_X0_65 : CF 0 RX0 65 yX0_setCoins cX0_setCoins 3 none 2 := ⟨⟨mG 408 (by decide +kernel) rfl, mG 150 (by decide +kernel) rfl, mG 151 (by decide +kernel) rfl⟩, mG 29 (by decide +kernel) rfl, mG 152 (by decide +kernel) rfl, ⟨by decide +kernel, by decide +kernel⟩, by decide +kernel⟩
theorem cf_L_112 : CF 0 RL 112 yX3_days cX3_days 2 (some .int) 0 := ⟨⟨mG 409 (by decide +kernel) rfl, mG 410 (by decide +kernel) rfl, mG 411 (by decide +kernel) rfl⟩, mG 28 (by decide +kernel) rfl, mG 412 (by decide +kernel) rfl, ⟨by decide +kernel, by decide +kernel⟩, by decide +kernel⟩
theorem cf_L_116 : CF 0 RL 116 yX3_count cX3_count 2 (some .int) 1 := ⟨⟨mG 413 (by decide +kernel) rfl, mG 414 (by decide +kernel) rfl, mG 415 (by decide +kernel) rfl⟩, mG 28 (by decide +kernel) rfl, mG 416 (by decide +kernel) rfl, ⟨by decide +kernel, by decide +kernel⟩, by decide +kernel⟩
theorem cf_X3_138 : CF 0 RX3 138 yX0_allCoins cX0_allCoins 3 (some .int) 0 := ⟨⟨mG 417 (by decide +kernel) rfl, mG 418 (by decide +kernel) rfl, mG 419 (by decide +kernel) rfl⟩, mG 29 (by decide +kernel) rfl, mG 420 (by decide +kernel) rfl, ⟨by decide +kernel, by decide +kernel⟩, by decide +kernel⟩
theorem cf_X3_141 : CF 0 RX3 141 yX0_allDebts cX0_allDebts 3 (some .int) 0 := ⟨⟨mG 421 (by decide +kernel) rfl, mG 422 (by decide +kernel) rfl, mG 423 (by decide +kernel) rfl⟩, mG 29 (by decide +kernel) rfl, mG 424 (by decide +kernel) rfl, ⟨by decide +kernel, by decide +kernel⟩, by decide +kernel⟩
theorem cf_X3_144 : CF 0 RX3 144 yX0_debtorCount cX0_debtorCount 3 (some .int) 0 := ⟨⟨mG 425 (by decide +kernel) rfl, mG 426 (by decide +kernel) rfl, mG 427 (by decide +kernel) rfl⟩, mG 29 (by decide +kernel) rfl, mG 428 (by decide +kernel) rfl, ⟨by decide +kernel, by decide +kernel⟩, by decide +kernel⟩
theorem cf_L_120 : CF 0 RL 120 yX3_digest cX3_digest 5 (some .long) 0 := ⟨⟨mG 429 (by decide +kernel) rfl, mG 430 (by decide +kernel) rfl, mG 431 (by decide +kernel) rfl⟩, mG 28 (by decide +kernel) rfl, mG 432 (by decide +kernel) rfl, ⟨by decide +kernel, by decide +kernel⟩, by decide +kernel⟩
theorem cf_L_17 : CF 0 RL 17 yX4_houses cX4_houses 3 (some .int) 1 := ⟨⟨mG 497 (by decide +kernel) rfl, mG 498 (by decide +kernel) rfl, mG 499 (by decide +kernel) rfl⟩, mG 32 (by decide +kernel) rfl, mG 500 (by decide +kernel) rfl, ⟨by decide +kernel, by decide +kernel⟩, by decide +kernel⟩
theorem cf_X4_46 : CF 1 RX4 46 yX4_in cX4_in 3 (some .boolean) 3 := ⟨⟨mG 501 (by decide +kernel) rfl, mG 502 (by decide +kernel) rfl⟩, mG 32 (by decide +kernel) rfl, mG 503 (by decide +kernel) rfl, ⟨by decide +kernel, by decide +kernel⟩, by decide +kernel⟩
theorem cf_L_22 : CF 0 RL 22 yX4_cash cX4_cash 4 (some .int) 2 := ⟨⟨mG 504 (by decide +kernel) rfl, mG 505 (by decide +kernel) rfl, mG 506 (by decide +kernel) rfl⟩, mG 32 (by decide +kernel) rfl, mG 507 (by decide +kernel) rfl, ⟨by decide +kernel, by decide +kernel⟩, by decide +kernel⟩
theorem cf_X4_57 : CF 0 RX4 57 yX4_isHouse cX4_isHouse 2 (some .boolean) 1 := ⟨⟨mG 508 (by decide +kernel) rfl, mG 510 (by decide +kernel) rfl, mG 12 (by decide +kernel) rfl⟩, mG 32 (by decide +kernel) rfl, mG 511 (by decide +kernel) rfl, ⟨by decide +kernel, by decide +kernel⟩, by decide +kernel⟩
theorem cf_L_27 : CF 0 RL 27 yX4_owe cX4_owe 5 (some .int) 3 := ⟨⟨mG 512 (by decide +kernel) rfl, mG 513 (by decide +kernel) rfl, mG 514 (by decide +kernel) rfl⟩, mG 32 (by decide +kernel) rfl, mG 515 (by decide +kernel) rfl, ⟨by decide +kernel, by decide +kernel⟩, by decide +kernel⟩
theorem cf_L_31 : CF 0 RL 31 yX4_toll cX4_toll 3 (some .int) 1 := ⟨⟨mG 516 (by decide +kernel) rfl, mG 517 (by decide +kernel) rfl, mG 518 (by decide +kernel) rfl⟩, mG 32 (by decide +kernel) rfl, mG 519 (by decide +kernel) rfl, ⟨by decide +kernel, by decide +kernel⟩, by decide +kernel⟩
theorem cf_L_35 : CF 0 RL 35 yX4_cashOf cX4_cashOf 2 (some .int) 1 := ⟨⟨mG 520 (by decide +kernel) rfl, mG 521 (by decide +kernel) rfl, mG 522 (by decide +kernel) rfl⟩, mG 32 (by decide +kernel) rfl, mG 523 (by decide +kernel) rfl, ⟨by decide +kernel, by decide +kernel⟩, by decide +kernel⟩
theorem cf_L_39 : CF 0 RL 39 yX4_debt cX4_debt 3 (some .int) 2 := ⟨⟨mG 524 (by decide +kernel) rfl, mG 525 (by decide +kernel) rfl, mG 526 (by decide +kernel) rfl⟩, mG 32 (by decide +kernel) rfl, mG 527 (by decide +kernel) rfl, ⟨by decide +kernel, by decide +kernel⟩, by decide +kernel⟩
theorem cf_L_43 : CF 0 RL 43 yX4_owes cX4_owes 2 (some .int) 1 := ⟨⟨mG 528 (by decide +kernel) rfl, mG 529 (by decide +kernel) rfl, mG 530 (by decide +kernel) rfl⟩, mG 32 (by decide +kernel) rfl, mG 531 (by decide +kernel) rfl, ⟨by decide +kernel, by decide +kernel⟩, by decide +kernel⟩
theorem cf_X4_61 : CF 0 RX4 61 yX4_owesOf cX4_owesOf 4 (some .int) 1 := ⟨⟨mG 532 (by decide +kernel) rfl, mG 534 (by decide +kernel) rfl, mG 13 (by decide +kernel) rfl⟩, mG 32 (by decide +kernel) rfl, mG 535 (by decide +kernel) rfl, ⟨by decide +kernel, by decide +kernel⟩, by decide +kernel⟩
theorem cf_L_47 : CF 0 RL 47 yX4_falls cX4_falls 2 (some .int) 1 := ⟨⟨mG 536 (by decide +kernel) rfl, mG 537 (by decide +kernel) rfl, mG 538 (by decide +kernel) rfl⟩, mG 32 (by decide +kernel) rfl, mG 539 (by decide +kernel) rfl, ⟨by decide +kernel, by decide +kernel⟩, by decide +kernel⟩
theorem cf_X4_91 : CF 0 RX4 91 yX4_clear cX4_clear 3 none 0 := ⟨⟨mG 540 (by decide +kernel) rfl, mG 542 (by decide +kernel) rfl, mG 14 (by decide +kernel) rfl⟩, mG 32 (by decide +kernel) rfl, mG 543 (by decide +kernel) rfl, ⟨by decide +kernel, by decide +kernel⟩, by decide +kernel⟩
theorem cf_X4_81 : CF 0 RX4 81 yX4_solve cX4_solve 6 none 0 := ⟨⟨mG 544 (by decide +kernel) rfl, mG 546 (by decide +kernel) rfl, mG 15 (by decide +kernel) rfl⟩, mG 32 (by decide +kernel) rfl, mG 547 (by decide +kernel) rfl, ⟨by decide +kernel, by decide +kernel⟩, by decide +kernel⟩
theorem cf_X4_71 : CF 0 RX4 71 yX4_worth cX4_worth 4 (some .long) 1 := ⟨⟨mG 549 (by decide +kernel) rfl, mG 551 (by decide +kernel) rfl, mG 16 (by decide +kernel) rfl⟩, mG 32 (by decide +kernel) rfl, mG 552 (by decide +kernel) rfl, ⟨by decide +kernel, by decide +kernel⟩, by decide +kernel⟩
theorem cf_X4_65 : CF 0 RX4 65 yX4_pair cX4_pair 4 (some .long) 3 := ⟨⟨mG 553 (by decide +kernel) rfl, mG 555 (by decide +kernel) rfl, mG 17 (by decide +kernel) rfl⟩, mG 32 (by decide +kernel) rfl, mG 556 (by decide +kernel) rfl, ⟨by decide +kernel, by decide +kernel⟩, by decide +kernel⟩
theorem cf_X4_84 : CF 0 RX4 84 yX4_grossOf cX4_grossOf 5 (some .long) 1 := ⟨⟨mG 557 (by decide +kernel) rfl, mG 559 (by decide +kernel) rfl, mG 18 (by decide +kernel) rfl⟩, mG 32 (by decide +kernel) rfl, mG 560 (by decide +kernel) rfl, ⟨by decide +kernel, by decide +kernel⟩, by decide +kernel⟩
theorem cf_L_52 : CF 0 RL 52 yX4_rounds cX4_rounds 1 (some .int) 0 := ⟨⟨mG 561 (by decide +kernel) rfl, mG 562 (by decide +kernel) rfl, mG 563 (by decide +kernel) rfl⟩, mG 32 (by decide +kernel) rfl, mG 564 (by decide +kernel) rfl, ⟨by decide +kernel, by decide +kernel⟩, by decide +kernel⟩
theorem cf_L_57 : CF 0 RL 57 yX4_share cX4_share 3 (some .long) 2 := ⟨⟨mG 565 (by decide +kernel) rfl, mG 566 (by decide +kernel) rfl, mG 567 (by decide +kernel) rfl⟩, mG 32 (by decide +kernel) rfl, mG 568 (by decide +kernel) rfl, ⟨by decide +kernel, by decide +kernel⟩, by decide +kernel⟩
theorem cf_X4_98 : CF 1 RX4 98 yX4_part cX4_part 7 (some .long) 3 := ⟨⟨mG 571 (by decide +kernel) rfl, mG 572 (by decide +kernel) rfl⟩, mG 32 (by decide +kernel) rfl, mG 573 (by decide +kernel) rfl, ⟨by decide +kernel, by decide +kernel⟩, by decide +kernel⟩
theorem cf_X4_87 : CF 1 RX4 87 yX4_common cX4_common 10 (some .long) 2 := ⟨⟨mG 574 (by decide +kernel) rfl, mG 575 (by decide +kernel) rfl⟩, mG 32 (by decide +kernel) rfl, mG 576 (by decide +kernel) rfl, ⟨by decide +kernel, by decide +kernel⟩, by decide +kernel⟩
theorem cf_L_61 : CF 0 RL 61 yX4_gross cX4_gross 3 (some .long) 2 := ⟨⟨mG 577 (by decide +kernel) rfl, mG 578 (by decide +kernel) rfl, mG 579 (by decide +kernel) rfl⟩, mG 32 (by decide +kernel) rfl, mG 580 (by decide +kernel) rfl, ⟨by decide +kernel, by decide +kernel⟩, by decide +kernel⟩
theorem cf_L_66 : CF 0 RL 66 yX4_pays cX4_pays 4 (some .long) 3 := ⟨⟨mG 581 (by decide +kernel) rfl, mG 582 (by decide +kernel) rfl, mG 583 (by decide +kernel) rfl⟩, mG 32 (by decide +kernel) rfl, mG 584 (by decide +kernel) rfl, ⟨by decide +kernel, by decide +kernel⟩, by decide +kernel⟩
theorem cf_L_70 : CF 0 RL 70 yX4_left cX4_left 3 (some .long) 2 := ⟨⟨mG 585 (by decide +kernel) rfl, mG 586 (by decide +kernel) rfl, mG 587 (by decide +kernel) rfl⟩, mG 32 (by decide +kernel) rfl, mG 588 (by decide +kernel) rfl, ⟨by decide +kernel, by decide +kernel⟩, by decide +kernel⟩
theorem cf_L_75 : CF 0 RL 75 yX4_lost cX4_lost 5 (some .long) 1 := ⟨⟨mG 589 (by decide +kernel) rfl, mG 590 (by decide +kernel) rfl, mG 591 (by decide +kernel) rfl⟩, mG 32 (by decide +kernel) rfl, mG 592 (by decide +kernel) rfl, ⟨by decide +kernel, by decide +kernel⟩, by decide +kernel⟩
theorem cf_L_79 : CF 0 RL 79 yX4_drag cX4_drag 6 (some .int) 1 := ⟨⟨mG 593 (by decide +kernel) rfl, mG 594 (by decide +kernel) rfl, mG 595 (by decide +kernel) rfl⟩, mG 32 (by decide +kernel) rfl, mG 596 (by decide +kernel) rfl, ⟨by decide +kernel, by decide +kernel⟩, by decide +kernel⟩
theorem cf_L_83 : CF 0 RL 83 yX4_help cX4_help 2 (some .int) 1 := ⟨⟨mG 597 (by decide +kernel) rfl, mG 598 (by decide +kernel) rfl, mG 599 (by decide +kernel) rfl⟩, mG 32 (by decide +kernel) rfl, mG 600 (by decide +kernel) rfl, ⟨by decide +kernel, by decide +kernel⟩, by decide +kernel⟩
theorem cf_X4_104 : CF 0 RX4 104 yX4_helpOf cX4_helpOf 9 (some .int) 1 := ⟨⟨mG 601 (by decide +kernel) rfl, mG 603 (by decide +kernel) rfl, mG 19 (by decide +kernel) rfl⟩, mG 32 (by decide +kernel) rfl, mG 604 (by decide +kernel) rfl, ⟨by decide +kernel, by decide +kernel⟩, by decide +kernel⟩
theorem cf_L_87 : CF 0 RL 87 yX4_best cX4_best 4 (some .int) 0 := ⟨⟨mG 606 (by decide +kernel) rfl, mG 607 (by decide +kernel) rfl, mG 608 (by decide +kernel) rfl⟩, mG 32 (by decide +kernel) rfl, mG 609 (by decide +kernel) rfl, ⟨by decide +kernel, by decide +kernel⟩, by decide +kernel⟩
theorem cf_L_91 : CF 0 RL 91 yX4_net cX4_net 4 (some .int) 1 := ⟨⟨mG 610 (by decide +kernel) rfl, mG 611 (by decide +kernel) rfl, mG 612 (by decide +kernel) rfl⟩, mG 32 (by decide +kernel) rfl, mG 613 (by decide +kernel) rfl, ⟨by decide +kernel, by decide +kernel⟩, by decide +kernel⟩
theorem cf_L_95 : CF 0 RL 95 yX4_rings cX4_rings 1 (some .int) 0 := ⟨⟨mG 615 (by decide +kernel) rfl, mG 616 (by decide +kernel) rfl, mG 617 (by decide +kernel) rfl⟩, mG 32 (by decide +kernel) rfl, mG 618 (by decide +kernel) rfl, ⟨by decide +kernel, by decide +kernel⟩, by decide +kernel⟩
theorem cf_X4_117 : CF 0 RX4 117 yX4_seek cX4_seek 7 none 1 := ⟨⟨mG 619 (by decide +kernel) rfl, mG 621 (by decide +kernel) rfl, mG 20 (by decide +kernel) rfl⟩, mG 32 (by decide +kernel) rfl, mG 622 (by decide +kernel) rfl, ⟨by decide +kernel, by decide +kernel⟩, by decide +kernel⟩
theorem cf_X4_114 : CF 0 RX4 114 yX4_isRing cX4_isRing 5 (some .boolean) 1 := ⟨⟨mG 623 (by decide +kernel) rfl, mG 625 (by decide +kernel) rfl, mG 21 (by decide +kernel) rfl⟩, mG 32 (by decide +kernel) rfl, mG 626 (by decide +kernel) rfl, ⟨by decide +kernel, by decide +kernel⟩, by decide +kernel⟩
theorem cf_L_99 : CF 0 RL 99 yX4_ring cX4_ring 4 (some .int) 1 := ⟨⟨mG 627 (by decide +kernel) rfl, mG 628 (by decide +kernel) rfl, mG 629 (by decide +kernel) rfl⟩, mG 32 (by decide +kernel) rfl, mG 630 (by decide +kernel) rfl, ⟨by decide +kernel, by decide +kernel⟩, by decide +kernel⟩
theorem cf_L_103 : CF 0 RL 103 yX4_cancel cX4_cancel 1 (some .int) 0 := ⟨⟨mG 631 (by decide +kernel) rfl, mG 632 (by decide +kernel) rfl, mG 633 (by decide +kernel) rfl⟩, mG 32 (by decide +kernel) rfl, mG 634 (by decide +kernel) rfl, ⟨by decide +kernel, by decide +kernel⟩, by decide +kernel⟩
theorem cf_X4_124 : CF 0 RX4 124 yX4_cancelOne cX4_cancelOne 4 (some .int) 0 := ⟨⟨mG 635 (by decide +kernel) rfl, mG 637 (by decide +kernel) rfl, mG 22 (by decide +kernel) rfl⟩, mG 32 (by decide +kernel) rfl, mG 638 (by decide +kernel) rfl, ⟨by decide +kernel, by decide +kernel⟩, by decide +kernel⟩
theorem cf_X4_121 : CF 0 RX4 121 yX4_debtOf cX4_debtOf 2 (some .int) 1 := ⟨⟨mG 639 (by decide +kernel) rfl, mG 641 (by decide +kernel) rfl, mG 23 (by decide +kernel) rfl⟩, mG 32 (by decide +kernel) rfl, mG 642 (by decide +kernel) rfl, ⟨by decide +kernel, by decide +kernel⟩, by decide +kernel⟩
theorem cf_L_107 : CF 0 RL 107 yX4_cancelAll cX4_cancelAll 3 (some .int) 0 := ⟨⟨mG 643 (by decide +kernel) rfl, mG 644 (by decide +kernel) rfl, mG 645 (by decide +kernel) rfl⟩, mG 32 (by decide +kernel) rfl, mG 646 (by decide +kernel) rfl, ⟨by decide +kernel, by decide +kernel⟩, by decide +kernel⟩
theorem cf_L_111 : CF 0 RL 111 yX4_day cX4_day 1 (some .int) 0 := ⟨⟨mG 647 (by decide +kernel) rfl, mG 648 (by decide +kernel) rfl, mG 649 (by decide +kernel) rfl⟩, mG 32 (by decide +kernel) rfl, mG 650 (by decide +kernel) rfl, ⟨by decide +kernel, by decide +kernel⟩, by decide +kernel⟩
theorem cf_X4_132 : CF 0 RX4 132 yX4_passDay cX4_passDay 4 (some .int) 0 := ⟨⟨mG 651 (by decide +kernel) rfl, mG 653 (by decide +kernel) rfl, mG 24 (by decide +kernel) rfl⟩, mG 32 (by decide +kernel) rfl, mG 654 (by decide +kernel) rfl, ⟨by decide +kernel, by decide +kernel⟩, by decide +kernel⟩
theorem cf_X4_128 : CF 0 RX4 128 yX4_payOne cX4_payOne 4 (some .int) 2 := ⟨⟨mG 655 (by decide +kernel) rfl, mG 657 (by decide +kernel) rfl, mG 25 (by decide +kernel) rfl⟩, mG 32 (by decide +kernel) rfl, mG 658 (by decide +kernel) rfl, ⟨by decide +kernel, by decide +kernel⟩, by decide +kernel⟩
theorem cf_L_115 : CF 0 RL 115 yX4_days cX4_days 2 (some .int) 0 := ⟨⟨mG 659 (by decide +kernel) rfl, mG 660 (by decide +kernel) rfl, mG 661 (by decide +kernel) rfl⟩, mG 32 (by decide +kernel) rfl, mG 662 (by decide +kernel) rfl, ⟨by decide +kernel, by decide +kernel⟩, by decide +kernel⟩
theorem cf_L_119 : CF 0 RL 119 yX4_count cX4_count 5 (some .int) 1 := ⟨⟨mG 663 (by decide +kernel) rfl, mG 664 (by decide +kernel) rfl, mG 665 (by decide +kernel) rfl⟩, mG 32 (by decide +kernel) rfl, mG 666 (by decide +kernel) rfl, ⟨by decide +kernel, by decide +kernel⟩, by decide +kernel⟩
theorem cf_L_124 : CF 0 RL 124 yX4_digest cX4_digest 3 (some .long) 0 := ⟨⟨mG 667 (by decide +kernel) rfl, mG 668 (by decide +kernel) rfl, mG 669 (by decide +kernel) rfl⟩, mG 32 (by decide +kernel) rfl, mG 670 (by decide +kernel) rfl, ⟨by decide +kernel, by decide +kernel⟩, by decide +kernel⟩
theorem cf_X4_142 : CF 0 RX4 142 yX4_mix cX4_mix 3 none 1 := ⟨⟨mG 672 (by decide +kernel) rfl, mG 674 (by decide +kernel) rfl, mG 26 (by decide +kernel) rfl⟩, mG 32 (by decide +kernel) rfl, mG 675 (by decide +kernel) rfl, ⟨by decide +kernel, by decide +kernel⟩, by decide +kernel⟩
theorem co_X3_78 : Cond.constantLong RX3 78 (-101) ∈ tblG := mG 266 (by decide +kernel) rfl
theorem co_X3_83 : Cond.constantLong RX3 83 (-102) ∈ tblG := mG 270 (by decide +kernel) rfl
theorem co_X3_107 : Cond.constantLong RX3 107 (10) ∈ tblG := mG 306 (by decide +kernel) rfl
theorem co_X3_122 : Cond.constant RX3 122 (-1000000) ∈ tblG := mG 345 (by decide +kernel) rfl
theorem co_X3_150 : Cond.constantLong RX3 150 (173) ∈ tblG := mG 433 (by decide +kernel) rfl
theorem co_X3_152 : Cond.constantLong RX3 152 (31) ∈ tblG := mG 434 (by decide +kernel) rfl
theorem co_X4_69 : Cond.constantLong RX4 69 (10) ∈ tblG := mG 548 (by decide +kernel) rfl
theorem co_X4_94 : Cond.constantLong RX4 94 (-101) ∈ tblG := mG 569 (by decide +kernel) rfl
theorem co_X4_96 : Cond.constantLong RX4 96 (-102) ∈ tblG := mG 570 (by decide +kernel) rfl
theorem co_X4_102 : Cond.constantLong RX4 102 (1000) ∈ tblG := mG 605 (by decide +kernel) rfl
theorem co_X4_107 : Cond.constant RX4 107 (-1000000) ∈ tblG := mG 614 (by decide +kernel) rfl
theorem co_X4_140 : Cond.constantLong RX4 140 (173) ∈ tblG := mG 671 (by decide +kernel) rfl
theorem co_X4_135 : Cond.constantLong RX4 135 (31) ∈ tblG := mG 676 (by decide +kernel) rfl
theorem ml_X3_158 : Cond.methodLink RX3 158 Lib.MathLoose.abs_long.x ∈ tblG := mG 278 (by decide +kernel) rfl
theorem ms_abs : Cond.static Lib.MathLoose.abs_long.x ∈ tblG := mG 279 (by decide +kernel) rfl
theorem mc_abs : Cond.code Lib.MathLoose.abs_long.x Lib.MathLoose.abs_long.code 2 (some .long) ∈ tblG := mG 280 (by decide +kernel) rfl
theorem ml_X0_53 : Cond.methodLink RX0 53 Lib.Math.max.name ∈ tblG := mG 333 (by decide +kernel) rfl
theorem ms_max : Cond.static Lib.Math.max.name ∈ tblG := mG 334 (by decide +kernel) rfl
theorem mc_max : Cond.code Lib.Math.max.name Lib.Math.max.code 2 (some .int) ∈ tblG := mG 335 (by decide +kernel) rfl
theorem ml_X2_39 : Cond.methodLink RX2 39 Lib.Math.min.name ∈ tblG := mG 370 (by decide +kernel) rfl
theorem ms_min : Cond.static Lib.Math.min.name ∈ tblG := mG 371 (by decide +kernel) rfl
theorem mc_min : Cond.code Lib.Math.min.name Lib.Math.min.code 2 (some .int) ∈ tblG := mG 372 (by decide +kernel) rfl
theorem mi_math : Cond.initialized "java/lang/Math" ∈ tblG := mG 33 (by decide +kernel) rfl
end
section
theorem inc1 (a : Nat) : nI a + Int32.ofInt 1 = nI (a + 1) := nI_1 a
theorem dec1 (a : Nat) : nI (a + 1) + Int32.ofInt (-1) = nI a := pk_m1 a
theorem lp {P : Nat → Prop} (N : Nat) (hx : P N) (hs : ∀ j, j < N → P (j + 1) → P j) : P 0 := by
  have key : ∀ k, k ≤ N → P (N - k) := by
    intro k
    induction k with
    | zero => exact fun _ => hx
    | succ k ih =>
      intro hk
      refine hs _ (by omega) ?_
      rw [show N - (k + 1) + 1 = N - k by omega]
      exact ih (by omega)
  have := key N (Nat.le_refl _)
  rwa [Nat.sub_self] at this
section CC
variable {Z : ZT} {X : XT} {cc : ByteArray} {own : String} {nL : Nat} {R : Room} {pc pc' : Nat} {L : List (Option Value)} {S rest : List Value} {w w' : va_W} {y : MethodName} {bytes : ByteArray} {maxL d n index q0 ci : Nat} {ret : Option FieldType} {b : Nat} {As : List Value} {x : Value} {q : vw_C} {fs : List Value}
theorem g_callV1 (h : OK Z X cc own nL R) (hd : decode cc pc = .ok (.invokevirtual index, 3)) (cf : CF 0 own index y bytes maxL ret n) (hM : MM Z y bytes maxL ret d (.ref b :: As) w (some x) w')
    (hq : w[q0]? = some (b, .inr (ci, fs))) (hc : clsL[ci]? = some q) (hqc : q.1 = y.cls) (hn : As.length = n) (hR : d + 1 ≤ R.frames ∧ 8 + (maxL + 11) + 30 * d ≤ R.locals) (hst : S = As.reverse ++ .ref b :: rest) (h8 : (rest.map fun v => v.category).sum ≤ 8) (hp : pc + 3 = pc')
    (k : GG Z X pc' L (x :: rest) w') : GG Z X pc L S w := g_callV h hd cf hM hq hc hqc hn hR hst h8 hp k
theorem g_callV0 (h : OK Z X cc own nL R) (hd : decode cc pc = .ok (.invokevirtual index, 3)) (cf : CF 0 own index y bytes maxL ret n) (hM : MM Z y bytes maxL ret d (.ref b :: As) w none w')
    (hq : w[q0]? = some (b, .inr (ci, fs))) (hc : clsL[ci]? = some q) (hqc : q.1 = y.cls) (hn : As.length = n) (hR : d + 1 ≤ R.frames ∧ 8 + (maxL + 11) + 30 * d ≤ R.locals) (hst : S = As.reverse ++ .ref b :: rest) (h8 : (rest.map fun v => v.category).sum ≤ 8) (hp : pc + 3 = pc')
    (k : GG Z X pc' L rest w') : GG Z X pc L S w := g_callV h hd cf hM hq hc hqc hn hR hst h8 hp k
theorem g_callS1 (h : OK Z X cc own nL R) (hd : decode cc pc = .ok (.invokestatic index, 3)) (cf : CF 1 own index y bytes maxL ret n) (hM : MM Z y bytes maxL ret d As w (some x) w') (hn : As.length = n) (hR : d + 1 ≤ R.frames ∧ 8 + (maxL + 11) + 30 * d ≤ R.locals) (hst : S = As.reverse ++ rest) (h8 : (rest.map fun v => v.category).sum ≤ 8) (hp : pc + 3 = pc')
    (k : GG Z X pc' L (x :: rest) w') : GG Z X pc L S w := g_callS h hd cf hM hn hR hst h8 hp k
theorem g_callN1 (h : OK Z X cc own nL R) (hd : decode cc pc = .ok (.invokestatic index, 3)) (cf : CF 2 own index y bytes maxL ret n) (hM : MM Z y bytes maxL ret d As w (some x) w') (hn : As.length = n) (hR : d + 1 ≤ R.frames ∧ 8 + (maxL + 11) + 30 * d ≤ R.locals) (hst : S = As.reverse ++ rest) (h8 : (rest.map fun v => v.category).sum ≤ 8) (hp : pc + 3 = pc')
    (k : GG Z X pc' L (x :: rest) w') : GG Z X pc L S w := g_callN h hd cf hM hn hR hst h8 hp k
theorem g_callN0 (h : OK Z X cc own nL R) (hd : decode cc pc = .ok (.invokestatic index, 3)) (cf : CF 2 own index y bytes maxL ret n) (hM : MM Z y bytes maxL ret d As w none w') (hn : As.length = n) (hR : d + 1 ≤ R.frames ∧ 8 + (maxL + 11) + 30 * d ≤ R.locals) (hst : S = As.reverse ++ rest) (h8 : (rest.map fun v => v.category).sum ≤ 8) (hp : pc + 3 = pc')
    (k : GG Z X pc' L rest w') : GG Z X pc L S w := g_callN h hd cf hM hn hR hst h8 hp k
end CC
/-- the first list's known values are the second's -/
def LSub : List (Option Value) → List (Option Value) → Prop
  | [], _ => True
  | none :: t, L => LSub t L.tail
  | some v :: t, L => L.head? = some (some v) ∧ LSub t L.tail
theorem LSub.get : ∀ (L' L : List (Option Value)), LSub L' L → ∀ (i : Nat) (v : Value), L'[i]? = some (some v) → L[i]? = some (some v)
  | [], L, _, i, v, h => by simp at h
  | none :: t, L, hs, i, v, h => by
    cases i with
    | zero => simp at h
    | succ i =>
      have := LSub.get t L.tail hs i v (by simpa using h)
      cases L with
      | nil => simp at this
      | cons a l => simpa using this
  | some u :: t, L, hs, i, v, h => by
    cases L with
    | nil => simp [LSub] at hs
    | cons a l =>
      cases i with
      | zero =>
        have h1 := hs.1
        simp at h1 h
        simp [h1, h]
      | succ i =>
        have := LSub.get t l hs.2 i v (by simpa using h)
        simpa using this
theorem GG.castW {Z : ZT} {X : XT} {pc : Nat} {L L' : List (Option Value)} {S S' : List Value} {w w' : va_W} (k : GG Z X pc L' S' w') (hL : LSub L' L) (hS : S = S') (hw : w = w') : GG Z X pc L S w := by
  subst hS
  subst hw
  obtain ⟨p, l, e, R0, s, m, args, below, meth, c, ce, sl, nL', A, Q⟩ := X
  intro H locs ls hP hD hS hl
  exact k H locs ls hP hD hS (lvh_mono hl (fun q hq => (lcs0 L q).mpr (hL.get L' L q.1 q.2 ((lcs0 L' q).mp hq))))
/-! the bare spellings of the numbers' own functions -/
def jrem (x y : Int64) : Int64 := x - x / y * y
def labs (x : Int64) : Int64 := if 0 < x then x else -x
def cdv : Nat → Int64 → Int64 → Int64
  | 0, b, _ => b
  | k + 1, b, s => if s = 0 then b else cdv k s (jrem b s)
end
section
section TS
variable {Z : ZT} {X : XT} {cc : ByteArray} {own : String} {nL : Nat} {R : Room} {pc tg len : Nat} {L : List (Option Value)} {S : List Value} {w : va_W} {x : Int32} {dflt lo hi off : Int} {offs : Array Int}
theorem g_tabIn (h : OK Z X cc own nL R) (hd : decode cc pc = .ok (.tableswitch dflt lo hi offs, len)) (h1 : ¬ x.toInt < lo) (h2 : ¬ hi < x.toInt) (ho : offs[(x.toInt - lo).toNat]? = some off) (ht : (pc : Int) + off = (tg : Int)) (k : GG Z X tg L S w) : GG Z X pc L (.int x :: S) w := by
  obtain ⟨p, l, e, R0, s, m, args, below, meth, c, ce, sl, nL', A, Q⟩ := X
  obtain ⟨⟨hx, hb, hml⟩, hown, hts, hlk, hK, hST, hA, rfl, rfl, hce, hsl⟩ := h
  intro H locs ls hP hD hS hl
  exact lv_tableIn hx hb hd h1 h2 ho ht (k H locs ls hP hD hS hl)
theorem g_tabOut (h : OK Z X cc own nL R) (hd : decode cc pc = .ok (.tableswitch dflt lo hi offs, len)) (h1 : x.toInt < lo ∨ hi < x.toInt) (ht : (pc : Int) + dflt = (tg : Int)) (k : GG Z X tg L S w) : GG Z X pc L (.int x :: S) w := by
  obtain ⟨p, l, e, R0, s, m, args, below, meth, c, ce, sl, nL', A, Q⟩ := X
  obtain ⟨⟨hx, hb, hml⟩, hown, hts, hlk, hK, hST, hA, rfl, rfl, hce, hsl⟩ := h
  intro H locs ls hP hD hS hl
  exact lv_tableOut hx hb hd h1 ht (k H locs ls hP hD hS hl)
theorem g_look {ps : Array (Int × Int)} (h : OK Z X cc own nL R) (hd : decode cc pc = .ok (.lookupswitch dflt ps, len)) (hp : (ps.toList.zip (ps.toList.drop 1)).all (fun (a, next) => a.1 < next.1) = true) (ho : Op.lookupswitch.offset ps.toList dflt x.toInt = off) (ht : (pc : Int) + off = (tg : Int)) (k : GG Z X tg L S w) : GG Z X pc L (.int x :: S) w := by
  obtain ⟨p, l, e, R0, s, m, args, below, meth, c, ce, sl, nL', A, Q⟩ := X
  obtain ⟨⟨hx, hb, hml⟩, hown, hts, hlk, hK, hST, hA, rfl, rfl, hce, hsl⟩ := h
  intro H locs ls hP hD hS hl
  exact lv_lookup hx hb hd hp ho ht (k H locs ls hP hD hS hl)
end TS
end
section
theorem M_X3_at {Z : ZT} {w : va_W} {q0 a n k : Nat} {f : Nat → Int32} (he : w[q0]? = some (a, .inl (Z.2.1 0, n, .inl f))) (hk : k < n) (hn : n < 2 ^ 31) : MM Z yX3_at cX3_at 2 (some .int) 0 [.ref a, .int (nI k)] w (some (.int (f k))) w := by
  refine MM.intro (by decide) [some (.ref a), some (.int (nI k))] rfl (Nat.le_of_ble_eq_true rfl) (fun X (h : OK Z X cX3_at RX3 2 (rmd 0)) hr => ?_)
  refine g_aload_n (i := 0) h dX3_at_0 rfl rfl (pc' := 1) rfl ?_
  refine g_ifnull h dX3_at_1 (pc' := 4) rfl ?_
  refine g_iload_n (i := 1) h dX3_at_4 rfl rfl (pc' := 5) rfl ?_
  refine g_if_ltF (tg := 20) h dX3_at_5 (by decide) (pc' := 8) rfl (nI_pos (by omega)) ?_
  refine g_iload_n (i := 1) h dX3_at_8 rfl rfl (pc' := 9) rfl ?_
  refine g_aload_n (i := 0) h dX3_at_9 rfl rfl (pc' := 10) rfl ?_
  refine g_alen0 h dX3_at_10 he (pc' := 11) rfl ?_
  refine g_icmp_geF (tg := 20) h dX3_at_11 (by decide) (pc' := 14) rfl (nI_ge hk hn) ?_
  refine g_aload_n (i := 0) h dX3_at_14 rfl rfl (pc' := 15) rfl ?_
  refine g_iload_n (i := 1) h dX3_at_15 rfl rfl (pc' := 16) rfl ?_
  refine g_ial h dX3_at_16 he rfl hk hn (pc' := 17) rfl ?_
  refine g_goto (pc' := 21) h dX3_at_17 (by decide) ?_
  exact g_iret h hr dX3_at_21 rfl rfl
theorem M_X3_longAt {Z : ZT} {w : va_W} {q0 a n k : Nat} {f : Nat → Int64} (he : w[q0]? = some (a, .inl (Z.2.1 1, n, .inr (.inl f)))) (hk : k < n) (hn : n < 2 ^ 31) : MM Z yX3_longAt cX3_longAt 2 (some .long) 0 [.ref a, .int (nI k)] w (some (.long (f k))) w := by
  refine MM.intro (by decide) [some (.ref a), some (.int (nI k))] rfl (Nat.le_of_ble_eq_true rfl) (fun X (h : OK Z X cX3_longAt RX3 2 (rmd 0)) hr => ?_)
  refine g_aload_n (i := 0) h dX3_longAt_0 rfl rfl (pc' := 1) rfl ?_
  refine g_ifnull h dX3_longAt_1 (pc' := 4) rfl ?_
  refine g_iload_n (i := 1) h dX3_longAt_4 rfl rfl (pc' := 5) rfl ?_
  refine g_if_ltF (tg := 20) h dX3_longAt_5 (by decide) (pc' := 8) rfl (nI_pos (by omega)) ?_
  refine g_iload_n (i := 1) h dX3_longAt_8 rfl rfl (pc' := 9) rfl ?_
  refine g_aload_n (i := 0) h dX3_longAt_9 rfl rfl (pc' := 10) rfl ?_
  refine g_alen1 h dX3_longAt_10 he (pc' := 11) rfl ?_
  refine g_icmp_geF (tg := 20) h dX3_longAt_11 (by decide) (pc' := 14) rfl (nI_ge hk hn) ?_
  refine g_aload_n (i := 0) h dX3_longAt_14 rfl rfl (pc' := 15) rfl ?_
  refine g_iload_n (i := 1) h dX3_longAt_15 rfl rfl (pc' := 16) rfl ?_
  refine g_lal h dX3_longAt_16 he rfl hk hn (pc' := 17) rfl ?_
  refine g_goto (pc' := 21) h dX3_longAt_17 (by decide) ?_
  exact g_lret h hr dX3_longAt_21 rfl rfl
theorem M_X3_put {Z : ZT} {w : va_W} {q0 a n k : Nat} {f : Nat → Int32} {x : Int32} (he : w[q0]? = some (a, .inl (Z.2.1 0, n, .inl f))) (hk : k < n) (hn : n < 2 ^ 31) : MM Z yX3_put cX3_put 3 none 0 [.ref a, .int (nI k), .int x] w none (w.set q0 (a, .inl (Z.2.1 0, n, .inl (upd f k x)))) := by
  refine MM.intro (by decide) [some (.ref a), some (.int (nI k)), some (.int x)] rfl (Nat.le_of_ble_eq_true rfl) (fun X (h : OK Z X cX3_put RX3 3 (rmd 0)) hr => ?_)
  refine g_aload_n (i := 0) h dX3_put_0 rfl rfl (pc' := 1) rfl ?_
  refine g_ifnull h dX3_put_1 (pc' := 4) rfl ?_
  refine g_iload_n (i := 1) h dX3_put_4 rfl rfl (pc' := 5) rfl ?_
  refine g_if_ltF (tg := 18) h dX3_put_5 (by decide) (pc' := 8) rfl (nI_pos (by omega)) ?_
  refine g_iload_n (i := 1) h dX3_put_8 rfl rfl (pc' := 9) rfl ?_
  refine g_aload_n (i := 0) h dX3_put_9 rfl rfl (pc' := 10) rfl ?_
  refine g_alen0 h dX3_put_10 he (pc' := 11) rfl ?_
  refine g_icmp_geF (tg := 18) h dX3_put_11 (by decide) (pc' := 14) rfl (nI_ge hk hn) ?_
  refine g_aload_n (i := 0) h dX3_put_14 rfl rfl (pc' := 15) rfl ?_
  refine g_iload_n (i := 1) h dX3_put_15 rfl rfl (pc' := 16) rfl ?_
  refine g_iload_n (i := 2) h dX3_put_16 rfl rfl (pc' := 17) rfl ?_
  refine g_ias h dX3_put_17 he rfl hk hn (pc' := 18) rfl ?_
  exact g_vret h hr dX3_put_18 rfl rfl
theorem M_X3_putLong {Z : ZT} {w : va_W} {q0 a n k : Nat} {f : Nat → Int64} {x : Int64} (he : w[q0]? = some (a, .inl (Z.2.1 1, n, .inr (.inl f)))) (hk : k < n) (hn : n < 2 ^ 31) : MM Z yX3_putLong cX3_putLong 4 none 0 [.ref a, .int (nI k), .long x] w none (w.set q0 (a, .inl (Z.2.1 1, n, .inr (.inl (vp_updL f k x))))) := by
  refine MM.intro (by decide) [some (.ref a), some (.int (nI k)), some (.long x), none] rfl (Nat.le_of_ble_eq_true rfl) (fun X (h : OK Z X cX3_putLong RX3 4 (rmd 0)) hr => ?_)
  refine g_aload_n (i := 0) h dX3_putLong_0 rfl rfl (pc' := 1) rfl ?_
  refine g_ifnull h dX3_putLong_1 (pc' := 4) rfl ?_
  refine g_iload_n (i := 1) h dX3_putLong_4 rfl rfl (pc' := 5) rfl ?_
  refine g_if_ltF (tg := 18) h dX3_putLong_5 (by decide) (pc' := 8) rfl (nI_pos (by omega)) ?_
  refine g_iload_n (i := 1) h dX3_putLong_8 rfl rfl (pc' := 9) rfl ?_
  refine g_aload_n (i := 0) h dX3_putLong_9 rfl rfl (pc' := 10) rfl ?_
  refine g_alen1 h dX3_putLong_10 he (pc' := 11) rfl ?_
  refine g_icmp_geF (tg := 18) h dX3_putLong_11 (by decide) (pc' := 14) rfl (nI_ge hk hn) ?_
  refine g_aload_n (i := 0) h dX3_putLong_14 rfl rfl (pc' := 15) rfl ?_
  refine g_iload_n (i := 1) h dX3_putLong_15 rfl rfl (pc' := 16) rfl ?_
  refine g_lload_n (i := 2) h dX3_putLong_16 rfl rfl (pc' := 17) rfl ?_
  refine g_las h dX3_putLong_17 he rfl hk hn (pc' := 18) rfl ?_
  exact g_vret h hr dX3_putLong_18 rfl rfl
theorem M_X3_at_all {Z : ZT} {w : va_W} {k : Nat} (hk : k < 20) : MM Z yX3_at cX3_at 2 (some .int) 0 [.ref (Z.2.2 21), .int (nI k)] w (some (.int (allR k))) w := by
  refine MM.intro (by decide) [some (.ref (Z.2.2 21)), some (.int (nI k))] rfl (Nat.le_of_ble_eq_true rfl) (fun X (h : OK Z X cX3_at RX3 2 (rmd 0)) hr => ?_)
  refine g_aload_n (i := 0) h dX3_at_0 rfl rfl (pc' := 1) rfl ?_
  refine g_ifnull h dX3_at_1 (pc' := 4) rfl ?_
  refine g_iload_n (i := 1) h dX3_at_4 rfl rfl (pc' := 5) rfl ?_
  refine g_if_ltF (tg := 20) h dX3_at_5 (by decide) (pc' := 8) rfl (nI_pos (by omega)) ?_
  refine g_iload_n (i := 1) h dX3_at_8 rfl rfl (pc' := 9) rfl ?_
  refine g_aload_n (i := 0) h dX3_at_9 rfl rfl (pc' := 10) rfl ?_
  refine g_alenAll h dX3_at_10 (pc' := 11) rfl ?_
  refine g_icmp_geF (tg := 20) h dX3_at_11 (by decide) (pc' := 14) rfl (nI_ge hk (by decide)) ?_
  refine g_aload_n (i := 0) h dX3_at_14 rfl rfl (pc' := 15) rfl ?_
  refine g_iload_n (i := 1) h dX3_at_15 rfl rfl (pc' := 16) rfl ?_
  refine g_ialAll h dX3_at_16 rfl hk (pc' := 17) rfl ?_
  refine g_goto (pc' := 21) h dX3_at_17 (by decide) ?_
  exact g_iret h hr dX3_at_21 rfl rfl
theorem M_X3_at_4 {Z : ZT} {n : Int32} {toll : Int32} {paid : Int32} {coin : Nat → Int32} {debt : Nat → Int32} {fall : Nat → Int32} {shr : Nat → Int64} {mat : Nat → Int64} {rgt : Nat → Int64} {pen : Int32} {last : Int32} {below : Int64} {k : Nat} (hk : k < 4) : MM Z yX3_at cX3_at 2 (some .int) 0 [.ref (Z.2.2 4), .int (nI k)] (wC Z n toll paid coin debt fall shr mat rgt pen last below) (some (.int (coin k))) (wC Z n toll paid coin debt fall shr mat rgt pen last below) := M_X3_at (q0 := 4) rfl hk (by decide)
theorem M_X3_put_4 {Z : ZT} {n : Int32} {toll : Int32} {paid : Int32} {coin : Nat → Int32} {debt : Nat → Int32} {fall : Nat → Int32} {shr : Nat → Int64} {mat : Nat → Int64} {rgt : Nat → Int64} {pen : Int32} {last : Int32} {below : Int64} {k : Nat} {x : Int32} (hk : k < 4) : MM Z yX3_put cX3_put 3 none 0 [.ref (Z.2.2 4), .int (nI k), .int x] (wC Z n toll paid coin debt fall shr mat rgt pen last below) none (wC Z n toll paid (upd coin k x) debt fall shr mat rgt pen last below) := M_X3_put (q0 := 4) rfl hk (by decide)
theorem M_X3_at_5 {Z : ZT} {n : Int32} {toll : Int32} {paid : Int32} {coin : Nat → Int32} {debt : Nat → Int32} {fall : Nat → Int32} {shr : Nat → Int64} {mat : Nat → Int64} {rgt : Nat → Int64} {pen : Int32} {last : Int32} {below : Int64} {k : Nat} (hk : k < 20) : MM Z yX3_at cX3_at 2 (some .int) 0 [.ref (Z.2.2 5), .int (nI k)] (wC Z n toll paid coin debt fall shr mat rgt pen last below) (some (.int (debt k))) (wC Z n toll paid coin debt fall shr mat rgt pen last below) := M_X3_at (q0 := 5) rfl hk (by decide)
theorem M_X3_put_5 {Z : ZT} {n : Int32} {toll : Int32} {paid : Int32} {coin : Nat → Int32} {debt : Nat → Int32} {fall : Nat → Int32} {shr : Nat → Int64} {mat : Nat → Int64} {rgt : Nat → Int64} {pen : Int32} {last : Int32} {below : Int64} {k : Nat} {x : Int32} (hk : k < 20) : MM Z yX3_put cX3_put 3 none 0 [.ref (Z.2.2 5), .int (nI k), .int x] (wC Z n toll paid coin debt fall shr mat rgt pen last below) none (wC Z n toll paid coin (upd debt k x) fall shr mat rgt pen last below) := M_X3_put (q0 := 5) rfl hk (by decide)
theorem M_X3_at_6 {Z : ZT} {n : Int32} {toll : Int32} {paid : Int32} {coin : Nat → Int32} {debt : Nat → Int32} {fall : Nat → Int32} {shr : Nat → Int64} {mat : Nat → Int64} {rgt : Nat → Int64} {pen : Int32} {last : Int32} {below : Int64} {k : Nat} (hk : k < 4) : MM Z yX3_at cX3_at 2 (some .int) 0 [.ref (Z.2.2 6), .int (nI k)] (wC Z n toll paid coin debt fall shr mat rgt pen last below) (some (.int (fall k))) (wC Z n toll paid coin debt fall shr mat rgt pen last below) := M_X3_at (q0 := 6) rfl hk (by decide)
theorem M_X3_put_6 {Z : ZT} {n : Int32} {toll : Int32} {paid : Int32} {coin : Nat → Int32} {debt : Nat → Int32} {fall : Nat → Int32} {shr : Nat → Int64} {mat : Nat → Int64} {rgt : Nat → Int64} {pen : Int32} {last : Int32} {below : Int64} {k : Nat} {x : Int32} (hk : k < 4) : MM Z yX3_put cX3_put 3 none 0 [.ref (Z.2.2 6), .int (nI k), .int x] (wC Z n toll paid coin debt fall shr mat rgt pen last below) none (wC Z n toll paid coin debt (upd fall k x) shr mat rgt pen last below) := M_X3_put (q0 := 6) rfl hk (by decide)
theorem M_X3_longAt_7 {Z : ZT} {n : Int32} {toll : Int32} {paid : Int32} {coin : Nat → Int32} {debt : Nat → Int32} {fall : Nat → Int32} {shr : Nat → Int64} {mat : Nat → Int64} {rgt : Nat → Int64} {pen : Int32} {last : Int32} {below : Int64} {k : Nat} (hk : k < 4) : MM Z yX3_longAt cX3_longAt 2 (some .long) 0 [.ref (Z.2.2 7), .int (nI k)] (wC Z n toll paid coin debt fall shr mat rgt pen last below) (some (.long (shr k))) (wC Z n toll paid coin debt fall shr mat rgt pen last below) := M_X3_longAt (q0 := 7) rfl hk (by decide)
theorem M_X3_putLong_7 {Z : ZT} {n : Int32} {toll : Int32} {paid : Int32} {coin : Nat → Int32} {debt : Nat → Int32} {fall : Nat → Int32} {shr : Nat → Int64} {mat : Nat → Int64} {rgt : Nat → Int64} {pen : Int32} {last : Int32} {below : Int64} {k : Nat} {x : Int64} (hk : k < 4) : MM Z yX3_putLong cX3_putLong 4 none 0 [.ref (Z.2.2 7), .int (nI k), .long x] (wC Z n toll paid coin debt fall shr mat rgt pen last below) none (wC Z n toll paid coin debt fall (vp_updL shr k x) mat rgt pen last below) := M_X3_putLong (q0 := 7) rfl hk (by decide)
theorem M_X3_longAt_8 {Z : ZT} {n : Int32} {toll : Int32} {paid : Int32} {coin : Nat → Int32} {debt : Nat → Int32} {fall : Nat → Int32} {shr : Nat → Int64} {mat : Nat → Int64} {rgt : Nat → Int64} {pen : Int32} {last : Int32} {below : Int64} {k : Nat} (hk : k < 16) : MM Z yX3_longAt cX3_longAt 2 (some .long) 0 [.ref (Z.2.2 8), .int (nI k)] (wC Z n toll paid coin debt fall shr mat rgt pen last below) (some (.long (mat k))) (wC Z n toll paid coin debt fall shr mat rgt pen last below) := M_X3_longAt (q0 := 8) rfl hk (by decide)
theorem M_X3_putLong_8 {Z : ZT} {n : Int32} {toll : Int32} {paid : Int32} {coin : Nat → Int32} {debt : Nat → Int32} {fall : Nat → Int32} {shr : Nat → Int64} {mat : Nat → Int64} {rgt : Nat → Int64} {pen : Int32} {last : Int32} {below : Int64} {k : Nat} {x : Int64} (hk : k < 16) : MM Z yX3_putLong cX3_putLong 4 none 0 [.ref (Z.2.2 8), .int (nI k), .long x] (wC Z n toll paid coin debt fall shr mat rgt pen last below) none (wC Z n toll paid coin debt fall shr (vp_updL mat k x) rgt pen last below) := M_X3_putLong (q0 := 8) rfl hk (by decide)
theorem M_X3_longAt_9 {Z : ZT} {n : Int32} {toll : Int32} {paid : Int32} {coin : Nat → Int32} {debt : Nat → Int32} {fall : Nat → Int32} {shr : Nat → Int64} {mat : Nat → Int64} {rgt : Nat → Int64} {pen : Int32} {last : Int32} {below : Int64} {k : Nat} (hk : k < 4) : MM Z yX3_longAt cX3_longAt 2 (some .long) 0 [.ref (Z.2.2 9), .int (nI k)] (wC Z n toll paid coin debt fall shr mat rgt pen last below) (some (.long (rgt k))) (wC Z n toll paid coin debt fall shr mat rgt pen last below) := M_X3_longAt (q0 := 9) rfl hk (by decide)
theorem M_X3_putLong_9 {Z : ZT} {n : Int32} {toll : Int32} {paid : Int32} {coin : Nat → Int32} {debt : Nat → Int32} {fall : Nat → Int32} {shr : Nat → Int64} {mat : Nat → Int64} {rgt : Nat → Int64} {pen : Int32} {last : Int32} {below : Int64} {k : Nat} {x : Int64} (hk : k < 4) : MM Z yX3_putLong cX3_putLong 4 none 0 [.ref (Z.2.2 9), .int (nI k), .long x] (wC Z n toll paid coin debt fall shr mat rgt pen last below) none (wC Z n toll paid coin debt fall shr mat (vp_updL rgt k x) pen last below) := M_X3_putLong (q0 := 9) rfl hk (by decide)
set_option maxRecDepth 20000 in
set_option maxHeartbeats 4000000 in
theorem M_X3_isPart {Z : ZT} {n : Int32} {toll : Int32} {paid : Int32} {coin : Nat → Int32} {debt : Nat → Int32} {fall : Nat → Int32} {shr : Nat → Int64} {mat : Nat → Int64} {rgt : Nat → Int64} {pen : Int32} {last : Int32} {below : Int64} {p : Int32}   : MM Z yX3_isPart cX3_isPart 1 (some .boolean) 0 [.int p] (wC Z n toll paid coin debt fall shr mat rgt pen last below) (some (.int (bI (p = 0 ∨ p = nI 1)))) (wC Z n toll paid coin debt fall shr mat rgt pen last below) := by
  refine MM.intro (by decide) [some (.int p)] rfl (Nat.le_of_ble_eq_true rfl) (fun X (h : OK Z X cX3_isPart RX3 1 (rmd 0)) hr => ?_)
  refine g_iload_n (i := 0) h dX3_isPart_0 rfl rfl (pc' := 1) rfl ?_
  refine g_if_eq (tg := 9) h dX3_isPart_1 (by decide) (pc' := 4) rfl (fun c1 => ?_) (fun c1 => ?_)
  · skip
    refine g_iconst (v := nI 1) h dX3_isPart_9 (by decide) (pc' := 10) rfl ?_
    refine g_goto (pc' := 14) h dX3_isPart_10 (by decide) ?_
    exact g_zret h hr dX3_isPart_14 (by decide) (by simp [bI, c1]; try rfl) rfl
  · skip
    refine g_iload_n (i := 0) h dX3_isPart_4 rfl rfl (pc' := 5) rfl ?_
    refine g_iconst (v := nI 1) h dX3_isPart_5 (by decide) (pc' := 6) rfl ?_
    refine g_icmp_ne (tg := 13) h dX3_isPart_6 (by decide) (pc' := 9) rfl (fun c2 => ?_) (fun c2 => ?_)
    · skip
      refine g_iconst (v := nI 0) h dX3_isPart_13 (by decide) (pc' := 14) rfl ?_
      exact g_zret h hr dX3_isPart_14 (by decide) (by simp [bI, c1, c2]; try rfl) rfl
    · skip
      refine g_iconst (v := nI 1) h dX3_isPart_9 (by decide) (pc' := 10) rfl ?_
      refine g_goto (pc' := 14) h dX3_isPart_10 (by decide) ?_
      exact g_zret h hr dX3_isPart_14 (by decide) (by simp [bI, c1, c2]; try rfl) rfl
set_option maxRecDepth 20000 in
set_option maxHeartbeats 4000000 in
theorem M_X3_commonDivisor {Z : ZT} {n : Int32} {toll : Int32} {paid : Int32} {coin : Nat → Int32} {debt : Nat → Int32} {fall : Nat → Int32} {shr : Nat → Int64} {mat : Nat → Int64} {rgt : Nat → Int64} {pen : Int32} {last : Int32} {below : Int64} {a : Int64} {b : Int64}   : MM Z yX3_commonDivisor cX3_commonDivisor 11 (some .long) 1 [.long a, .long b] (wC Z n toll paid coin debt fall shr mat rgt pen last below) (some (.long (cdv 200 (labs a) (labs b)))) (wC Z n toll paid coin debt fall shr mat rgt pen last below) := by
  refine MM.intro (by decide) [some (.long a), none, some (.long b), none, none, none, none, none, none, none, none] rfl (Nat.le_of_ble_eq_true rfl) (fun X (h : OK Z X cX3_commonDivisor RX3 11 (rmd 1)) hr => ?_)
  refine g_lload_n (i := 0) h dX3_commonDivisor_0 rfl rfl (pc' := 1) rfl ?_
  refine g_mabs ml_X3_158 ms_abs mi_math mc_abs h dX3_commonDivisor_1 (by decide) (Nat.le_of_ble_eq_true rfl) (pc' := 4) rfl ?_
  refine g_lstore4 h dX3_commonDivisor_4 rfl (by decide) (pc' := 6) rfl ?_
  refine g_lload_n (i := 2) h dX3_commonDivisor_6 rfl rfl (pc' := 7) rfl ?_
  refine g_mabs ml_X3_158 ms_abs mi_math mc_abs h dX3_commonDivisor_7 (by decide) (Nat.le_of_ble_eq_true rfl) (pc' := 10) rfl ?_
  refine g_lstore6 h dX3_commonDivisor_10 rfl (by decide) (pc' := 12) rfl ?_
  refine g_iconst (v := nI 0) h dX3_commonDivisor_12 (by decide) (pc' := 13) rfl ?_
  refine g_istore8 h dX3_commonDivisor_13 rfl (by decide) (pc' := 15) rfl ?_
  have key15 : ∀ (k : Nat) (j : Nat) (x y : Int64), (j + k = 200) → (cdv 200 (labs a) (labs b) = cdv k x y) → GG Z X 15 [some (.long a), none, some (.long b), none, some (.long x), none, some (.long y), none, some (.int (nI j)), none, none] [] (wC Z n toll paid coin debt fall shr mat rgt pen last below) := by
    intro k
    induction k with
    | zero =>
      intro j x y e15_0 e15_1
      refine g_iload h dX3_commonDivisor_15 rfl (pc' := 17) rfl ?_
      refine g_sipush (v := nI 200) h dX3_commonDivisor_17 (by decide) (pc' := 20) rfl ?_
      refine g_icmp_geT (tg := 51) h dX3_commonDivisor_20 (by decide) (by rw [show j = 200 by omega]; exact Int32.le_refl _) ?_
      refine g_lload h dX3_commonDivisor_51 rfl (pc' := 53) rfl ?_
      exact g_lret h hr dX3_commonDivisor_53 (by first | (rw [e15_1]; simp [cdv, ]) | (rw [e15_1]; rfl)) rfl
    | succ k ih15 =>
      intro j x y e15_0 e15_1
      have hj : j < 200 := by omega
      refine g_iload h dX3_commonDivisor_15 rfl (pc' := 17) rfl ?_
      refine g_sipush (v := nI 200) h dX3_commonDivisor_17 (by decide) (pc' := 20) rfl ?_
      refine g_icmp_geF (tg := 51) h dX3_commonDivisor_20 (by decide) (pc' := 23) rfl (nI_ge hj (by decide)) ?_
      refine g_lload h dX3_commonDivisor_23 rfl (pc' := 25) rfl ?_
      refine g_lconst (v := 0) h dX3_commonDivisor_25 (by decide) (pc' := 26) rfl ?_
      refine g_lcmp_eq (pc1 := 27) (tg := 51) h dX3_commonDivisor_26 rfl dX3_commonDivisor_27 (by decide) (pc' := 30) rfl (fun c1 => ?_) (fun c1 => ?_)
      · skip
        refine g_lload h dX3_commonDivisor_51 rfl (pc' := 53) rfl ?_
        exact g_lret h hr dX3_commonDivisor_53 (by first | (rw [e15_1]; simp [cdv, c1]) | (rw [e15_1]; rfl)) rfl
      · skip
        refine g_lload h dX3_commonDivisor_30 rfl (pc' := 32) rfl ?_
        refine g_lload h dX3_commonDivisor_32 rfl (pc' := 34) rfl ?_
        refine g_lrem h dX3_commonDivisor_34 c1 (pc' := 35) rfl ?_
        refine g_lstore9 h dX3_commonDivisor_35 rfl (by decide) (pc' := 37) rfl ?_
        refine g_lload h dX3_commonDivisor_37 rfl (pc' := 39) rfl ?_
        refine g_lstore4 h dX3_commonDivisor_39 rfl (by decide) (pc' := 41) rfl ?_
        refine g_lload h dX3_commonDivisor_41 rfl (pc' := 43) rfl ?_
        refine g_lstore6 h dX3_commonDivisor_43 rfl (by decide) (pc' := 45) rfl ?_
        refine g_iinc8 (v := nI (j + 1)) h dX3_commonDivisor_45 rfl (inc1 j) (by decide) (pc' := 48) rfl ?_
        refine g_goto (pc' := 15) h dX3_commonDivisor_48 (by decide) ?_
        exact GG.castW (ih15 (j + 1) y (jrem x y) (by omega) (e15_1.trans (if_neg c1))) ⟨rfl, rfl, rfl, rfl, rfl, trivial⟩ rfl rfl
  exact GG.castW (key15 200 0 (labs a) (labs b) rfl rfl) ⟨rfl, rfl, rfl, rfl, rfl, trivial⟩ rfl rfl
def lT (a b : Int64) (p : Int32) : Int64 := if cdv 200 (labs a) (labs b) = 0 then 0 else if p = 0 then a / cdv 200 (labs a) (labs b) else b / cdv 200 (labs a) (labs b)
set_option maxRecDepth 20000 in
set_option maxHeartbeats 4000000 in
theorem M_X3_lowestTerms {Z : ZT} {n : Int32} {toll : Int32} {paid : Int32} {coin : Nat → Int32} {debt : Nat → Int32} {fall : Nat → Int32} {shr : Nat → Int64} {mat : Nat → Int64} {rgt : Nat → Int64} {pen : Int32} {last : Int32} {below : Int64} {a : Int64} {b : Int64} {p : Int32}   : MM Z yX3_lowestTerms cX3_lowestTerms 7 (some .long) 2 [.long a, .long b, .int p] (wC Z n toll paid coin debt fall shr mat rgt pen last below) (some (.long (lT a b p))) (wC Z n toll paid coin debt fall shr mat rgt pen last below) := by
  refine MM.intro (by decide) [some (.long a), none, some (.long b), none, some (.int p), none, none] rfl (Nat.le_of_ble_eq_true rfl) (fun X (h : OK Z X cX3_lowestTerms RX3 7 (rmd 2)) hr => ?_)
  refine g_lload_n (i := 0) h dX3_lowestTerms_0 rfl rfl (pc' := 1) rfl ?_
  refine g_lload_n (i := 2) h dX3_lowestTerms_1 rfl rfl (pc' := 2) rfl ?_
  refine g_callS1 h dX3_lowestTerms_2 cf_X3_154 (M_X3_commonDivisor (a := a) (b := b) ) rfl (by decide) rfl (Nat.le_of_ble_eq_true rfl) (pc' := 5) rfl ?_
  refine g_lstore5 h dX3_lowestTerms_5 rfl (by decide) (pc' := 7) rfl ?_
  refine g_lload h dX3_lowestTerms_7 rfl (pc' := 9) rfl ?_
  refine g_lconst (v := 0) h dX3_lowestTerms_9 (by decide) (pc' := 10) rfl ?_
  refine g_lcmp_ne (pc1 := 11) (tg := 16) h dX3_lowestTerms_10 rfl dX3_lowestTerms_11 (by decide) (pc' := 14) rfl (fun c1 => ?_) (fun c1 => ?_)
  · skip
    refine g_iload h dX3_lowestTerms_16 rfl (pc' := 18) rfl ?_
    refine g_if_ne (tg := 25) h dX3_lowestTerms_18 (by decide) (pc' := 21) rfl (fun c2 => ?_) (fun c2 => ?_)
    · skip
      refine g_lload_n (i := 2) h dX3_lowestTerms_25 rfl rfl (pc' := 26) rfl ?_
      refine g_lload h dX3_lowestTerms_26 rfl (pc' := 28) rfl ?_
      refine g_ldiv h dX3_lowestTerms_28 c1 (pc' := 29) rfl ?_
      exact g_lret h hr dX3_lowestTerms_29 (by simp only [lT, if_neg c1, if_neg c2]) rfl
    · skip
      refine g_lload_n (i := 0) h dX3_lowestTerms_21 rfl rfl (pc' := 22) rfl ?_
      refine g_goto (pc' := 26) h dX3_lowestTerms_22 (by decide) ?_
      refine g_lload h dX3_lowestTerms_26 rfl (pc' := 28) rfl ?_
      refine g_ldiv h dX3_lowestTerms_28 c1 (pc' := 29) rfl ?_
      exact g_lret h hr dX3_lowestTerms_29 (by simp only [lT, if_neg c1, if_pos c2]) rfl
  · skip
    refine g_lconst (v := 0) h dX3_lowestTerms_14 (by decide) (pc' := 15) rfl ?_
    exact g_lret h hr dX3_lowestTerms_15 (by simp only [lT, if_pos c1]) rfl
end
section
theorem nI0 : nI 0 = 0 := rfl
theorem nI1 : nI 1 = 1 := rfl
/-- the first j cells at nothing -/
def zf (f : Nat → Int32) (j : Nat) : Nat → Int32 := fun k => if k < j then nI 0 else f k
theorem zf_0 (f : Nat → Int32) : zf f 0 = f := by funext k; simp [zf]
theorem zf_s (f : Nat → Int32) (j : Nat) : upd (zf f j) j (nI 0) = zf f (j + 1) := by
  funext k
  simp only [upd, zf]
  by_cases h : k = j
  · subst h; simp
  · by_cases h2 : k < j
    · simp [h, h2, Nat.lt_succ_of_lt h2]
    · simp [h, h2, show ¬ k < j + 1 by omega]
def sI (f : Nat → Int32) : Nat → Int32
  | 0 => nI 0
  | k + 1 => sI f k + f k
/-- what a house owes, what is owed to a column -/
def oB (debt : Nat → Int32) (i : Nat) : Int32 := sI (fun k => debt (i * 5 + k)) 5
def oT (debt : Nat → Int32) (c : Nat) : Int32 := sI (fun i => debt (i * 5 + c)) 4
def dC (debt : Nat → Int32) : Nat → Nat
  | 0 => 0
  | i + 1 => if oB debt i ≤ 0 then dC debt i else dC debt i + 1
def sf (coin debt : Nat → Int32) (i : Nat) : Int32 := (oB debt i - coin i) - oT debt i
def bad (f : Nat → Int32) (i : Nat) : Nat → Bool
  | 0 => false
  | k + 1 => bad f i k || (decide (k ≠ i) && decide (¬ f k ≤ 0))
theorem bad_le {f : Nat → Int32} {i j : Nat} : ∀ {n : Nat}, j ≤ n → bad f i j = true → bad f i n = true
  | 0, h, hb => by rw [show j = 0 by omega] at hb; exact hb
  | n + 1, h, hb => by
    by_cases e : j = n + 1
    · rw [← e]; exact hb
    · rw [bad, bad_le (by omega) hb]; rfl
def hN (coin debt : Nat → Int32) (i : Nat) : Int32 := if bad (sf coin debt) i 4 = true then (-1) else if nI 0 < sf coin debt i then sf coin debt i else nI 0
abbrev pays (coin debt : Nat → Int32) (i c : Nat) : Prop := ¬ debt (i * 5 + c) = 0 ∧ debt (i * 5 + c) ≤ coin i
def pwN (coin debt : Nat → Int32) (i c : Nat) : Nat := if pays coin debt i c then 1 else 0
def pwD (coin debt : Nat → Int32) (i c : Nat) : Nat → Int32 := if pays coin debt i c then upd debt (i * 5 + c) (nI 0) else debt
def pwP (paid : Int32) (coin debt : Nat → Int32) (i c : Nat) : Int32 := if pays coin debt i c ∧ c = 4 then paid + debt (i * 5 + c) else paid
def pwC1 (coin debt : Nat → Int32) (i c : Nat) : Nat → Int32 := upd coin i (coin i - debt (i * 5 + c))
def pwC (coin debt : Nat → Int32) (i c : Nat) : Nat → Int32 := if pays coin debt i c then (if c = 4 then pwC1 coin debt i c else upd (pwC1 coin debt i c) c (pwC1 coin debt i c c + debt (i * 5 + c))) else coin
/-- how many debts were paid, what went outside, the coins, the debts -/
abbrev dT : Type := Nat × Int32 × (Nat → Int32) × (Nat → Int32)
def pStep (i c : Nat) (t : dT) : dT := (t.1 + pwN t.2.2.1 t.2.2.2 i c, pwP t.2.1 t.2.2.1 t.2.2.2 i c, pwC t.2.2.1 t.2.2.2 i c, pwD t.2.2.1 t.2.2.2 i c)
def pRow (i : Nat) : Nat → dT → dT
  | 0, t => pStep i 4 t
  | j + 1, t => pStep i j (pRow i j t)
def pDay : Nat → dT → dT
  | 0, t => t
  | i + 1, t => pRow i 4 (pDay i t)
set_option maxRecDepth 20000 in
set_option maxHeartbeats 4000000 in
theorem M_X0_open {Z : ZT} {n : Int32} {toll : Int32} {paid : Int32} {coin : Nat → Int32} {debt : Nat → Int32} {fall : Nat → Int32} {shr : Nat → Int64} {mat : Nat → Int64} {rgt : Nat → Int64} {pen : Int32} {last : Int32} {below : Int64} {m : Int32}   : MM Z yX0_open cX0_open 3 none 1 [.ref (Z.2.2 1), .int m] (wC Z n toll paid coin debt fall shr mat rgt pen last below) none (wC Z m (nI 0) (nI 0) (zf coin 4) (zf debt 20) fall shr mat rgt pen last below) := by
  refine MM.intro (by decide) [some (.ref (Z.2.2 1)), some (.int m), none] rfl (Nat.le_of_ble_eq_true rfl) (fun X (h : OK Z X cX0_open RX0 3 (rmd 1)) hr => ?_)
  refine g_aload_n (i := 0) h dX0_open_0 rfl rfl (pc' := 1) rfl ?_
  refine g_iload_n (i := 1) h dX0_open_1 rfl rfl (pc' := 2) rfl ?_
  refine pf_X0_11 h dX0_open_2 (pc' := 5) rfl ?_
  refine g_aload_n (i := 0) h dX0_open_5 rfl rfl (pc' := 6) rfl ?_
  refine g_iconst (v := nI 0) h dX0_open_6 (by decide) (pc' := 7) rfl ?_
  refine pf_X0_15 h dX0_open_7 (pc' := 10) rfl ?_
  refine g_aload_n (i := 0) h dX0_open_10 rfl rfl (pc' := 11) rfl ?_
  refine g_iconst (v := nI 0) h dX0_open_11 (by decide) (pc' := 12) rfl ?_
  refine pf_X0_18 h dX0_open_12 (pc' := 15) rfl ?_
  refine g_iconst (v := nI 0) h dX0_open_15 (by decide) (pc' := 16) rfl ?_
  refine g_istore2 h dX0_open_16 rfl (by decide) (pc' := 17) rfl ?_
  refine GG.castW (lp (P := fun j => GG Z X 17 [some (.ref (Z.2.2 1)), some (.int m), some (.int (nI j))] [] (wC Z m (nI 0) (nI 0) (zf coin j) debt fall shr mat rgt pen last below)) 4 ?_ ?_) ⟨rfl, rfl, rfl, trivial⟩ rfl (by rw [zf_0])
  · skip
    refine g_iload_n (i := 2) h dX0_open_17 rfl rfl (pc' := 18) rfl ?_
    refine g_iconst (v := nI 4) h dX0_open_18 (by decide) (pc' := 19) rfl ?_
    refine g_icmp_geT (tg := 37) h dX0_open_19 (by decide) (Int32.le_refl _) ?_
    refine g_iconst (v := nI 0) h dX0_open_37 (by decide) (pc' := 38) rfl ?_
    refine g_istore2 h dX0_open_38 rfl (by decide) (pc' := 39) rfl ?_
    refine GG.castW (lp (P := fun j => GG Z X 39 [some (.ref (Z.2.2 1)), some (.int m), some (.int (nI j))] [] (wC Z m (nI 0) (nI 0) (zf coin 4) (zf debt j) fall shr mat rgt pen last below)) 20 ?_ ?_) ⟨rfl, rfl, rfl, trivial⟩ rfl (by rw [zf_0])
    · skip
      refine g_iload_n (i := 2) h dX0_open_39 rfl rfl (pc' := 40) rfl ?_
      refine g_bipush (v := nI 20) h dX0_open_40 (by decide) (pc' := 42) rfl ?_
      refine g_icmp_geT (tg := 60) h dX0_open_42 (by decide) (Int32.le_refl _) ?_
      exact g_vret h hr dX0_open_60 rfl rfl
    · intro j hj ih39
      refine g_iload_n (i := 2) h dX0_open_39 rfl rfl (pc' := 40) rfl ?_
      refine g_bipush (v := nI 20) h dX0_open_40 (by decide) (pc' := 42) rfl ?_
      refine g_icmp_geF (tg := 60) h dX0_open_42 (by decide) (pc' := 45) rfl (nI_ge hj (by omega)) ?_
      refine g_aload_n (i := 0) h dX0_open_45 rfl rfl (pc' := 46) rfl ?_
      refine gf_X0_25 h dX0_open_46 (pc' := 49) rfl ?_
      refine g_iload_n (i := 2) h dX0_open_49 rfl rfl (pc' := 50) rfl ?_
      refine g_iconst (v := nI 0) h dX0_open_50 (by decide) (pc' := 51) rfl ?_
      refine g_callN0 h dX0_open_51 cf_X0_28 (M_X3_put_5 (k := j) (x := nI 0) (by omega)) rfl (by decide) rfl (Nat.le_of_ble_eq_true rfl) (pc' := 54) rfl ?_
      refine g_iinc2 (v := nI (j + 1)) h dX0_open_54 rfl (inc1 j) (by decide) (pc' := 57) rfl ?_
      refine g_goto (pc' := 39) h dX0_open_57 (by decide) ?_
      exact GG.castW ih39 ⟨rfl, rfl, rfl, trivial⟩ rfl (by rw [zf_s])
  · intro j hj ih17
    refine g_iload_n (i := 2) h dX0_open_17 rfl rfl (pc' := 18) rfl ?_
    refine g_iconst (v := nI 4) h dX0_open_18 (by decide) (pc' := 19) rfl ?_
    refine g_icmp_geF (tg := 37) h dX0_open_19 (by decide) (pc' := 22) rfl (nI_ge hj (by omega)) ?_
    refine g_aload_n (i := 0) h dX0_open_22 rfl rfl (pc' := 23) rfl ?_
    refine gf_X0_21 h dX0_open_23 (pc' := 26) rfl ?_
    refine g_iload_n (i := 2) h dX0_open_26 rfl rfl (pc' := 27) rfl ?_
    refine g_iconst (v := nI 0) h dX0_open_27 (by decide) (pc' := 28) rfl ?_
    refine g_callN0 h dX0_open_28 cf_X0_28 (M_X3_put_4 (k := j) (x := nI 0) (by omega)) rfl (by decide) rfl (Nat.le_of_ble_eq_true rfl) (pc' := 31) rfl ?_
    refine g_iinc2 (v := nI (j + 1)) h dX0_open_31 rfl (inc1 j) (by decide) (pc' := 34) rfl ?_
    refine g_goto (pc' := 17) h dX0_open_34 (by decide) ?_
    exact GG.castW ih17 ⟨rfl, rfl, rfl, trivial⟩ rfl (by rw [zf_s])
set_option maxRecDepth 20000 in
set_option maxHeartbeats 4000000 in
theorem M_X0_isHouse {Z : ZT} {n : Int32} {toll : Int32} {paid : Int32} {coin : Nat → Int32} {debt : Nat → Int32} {fall : Nat → Int32} {shr : Nat → Int64} {mat : Nat → Int64} {rgt : Nat → Int64} {pen : Int32} {last : Int32} {below : Int64} {i : Int32}   : MM Z yX0_isHouse cX0_isHouse 2 (some .boolean) 0 [.ref (Z.2.2 1), .int i] (wC Z n toll paid coin debt fall shr mat rgt pen last below) (some (.int (bI (¬ i < 0 ∧ ¬ n ≤ i)))) (wC Z n toll paid coin debt fall shr mat rgt pen last below) := by
  refine MM.intro (by decide) [some (.ref (Z.2.2 1)), some (.int i)] rfl (Nat.le_of_ble_eq_true rfl) (fun X (h : OK Z X cX0_isHouse RX0 2 (rmd 0)) hr => ?_)
  refine g_iload_n (i := 1) h dX0_isHouse_0 rfl rfl (pc' := 1) rfl ?_
  refine g_if_lt (tg := 16) h dX0_isHouse_1 (by decide) (pc' := 4) rfl (fun c1 => ?_) (fun c1 => ?_)
  · skip
    refine g_iconst (v := nI 0) h dX0_isHouse_16 (by decide) (pc' := 17) rfl ?_
    exact g_zret h hr dX0_isHouse_17 (by decide) (by simp [bI, c1, nI0, nI1]) rfl
  · skip
    refine g_iload_n (i := 1) h dX0_isHouse_4 rfl rfl (pc' := 5) rfl ?_
    refine g_aload_n (i := 0) h dX0_isHouse_5 rfl rfl (pc' := 6) rfl ?_
    refine gf_X0_11 h dX0_isHouse_6 (pc' := 9) rfl ?_
    refine g_icmp_ge (tg := 16) h dX0_isHouse_9 (by decide) (pc' := 12) rfl (fun c2 => ?_) (fun c2 => ?_)
    · skip
      refine g_iconst (v := nI 0) h dX0_isHouse_16 (by decide) (pc' := 17) rfl ?_
      exact g_zret h hr dX0_isHouse_17 (by decide) (by simp [bI, c1, c2, nI0, nI1]) rfl
    · skip
      refine g_iconst (v := nI 1) h dX0_isHouse_12 (by decide) (pc' := 13) rfl ?_
      refine g_goto (pc' := 17) h dX0_isHouse_13 (by decide) ?_
      exact g_zret h hr dX0_isHouse_17 (by decide) (by simp [bI, c1, c2, nI0, nI1]) rfl
set_option maxRecDepth 20000 in
set_option maxHeartbeats 4000000 in
theorem M_X0_isPayee {Z : ZT} {n : Int32} {toll : Int32} {paid : Int32} {coin : Nat → Int32} {debt : Nat → Int32} {fall : Nat → Int32} {shr : Nat → Int64} {mat : Nat → Int64} {rgt : Nat → Int64} {pen : Int32} {last : Int32} {below : Int64} {i : Int32}   : MM Z yX0_isPayee cX0_isPayee 2 (some .boolean) 0 [.ref (Z.2.2 1), .int i] (wC Z n toll paid coin debt fall shr mat rgt pen last below) (some (.int (bI (¬ i < 0 ∧ ¬ n < i)))) (wC Z n toll paid coin debt fall shr mat rgt pen last below) := by
  refine MM.intro (by decide) [some (.ref (Z.2.2 1)), some (.int i)] rfl (Nat.le_of_ble_eq_true rfl) (fun X (h : OK Z X cX0_isPayee RX0 2 (rmd 0)) hr => ?_)
  refine g_iload_n (i := 1) h dX0_isPayee_0 rfl rfl (pc' := 1) rfl ?_
  refine g_if_lt (tg := 16) h dX0_isPayee_1 (by decide) (pc' := 4) rfl (fun c1 => ?_) (fun c1 => ?_)
  · skip
    refine g_iconst (v := nI 0) h dX0_isPayee_16 (by decide) (pc' := 17) rfl ?_
    exact g_zret h hr dX0_isPayee_17 (by decide) (by simp [bI, c1, nI0, nI1]) rfl
  · skip
    refine g_iload_n (i := 1) h dX0_isPayee_4 rfl rfl (pc' := 5) rfl ?_
    refine g_aload_n (i := 0) h dX0_isPayee_5 rfl rfl (pc' := 6) rfl ?_
    refine gf_X0_11 h dX0_isPayee_6 (pc' := 9) rfl ?_
    refine g_icmp_gt (tg := 16) h dX0_isPayee_9 (by decide) (pc' := 12) rfl (fun c2 => ?_) (fun c2 => ?_)
    · skip
      refine g_iconst (v := nI 0) h dX0_isPayee_16 (by decide) (pc' := 17) rfl ?_
      exact g_zret h hr dX0_isPayee_17 (by decide) (by simp [bI, c1, c2, nI0, nI1]) rfl
    · skip
      refine g_iconst (v := nI 1) h dX0_isPayee_12 (by decide) (pc' := 13) rfl ?_
      refine g_goto (pc' := 17) h dX0_isPayee_13 (by decide) ?_
      exact g_zret h hr dX0_isPayee_17 (by decide) (by simp [bI, c1, c2, nI0, nI1]) rfl
set_option maxRecDepth 20000 in
set_option maxHeartbeats 4000000 in
theorem M_X0_columnOf {Z : ZT} {n : Int32} {toll : Int32} {paid : Int32} {coin : Nat → Int32} {debt : Nat → Int32} {fall : Nat → Int32} {shr : Nat → Int64} {mat : Nat → Int64} {rgt : Nat → Int64} {pen : Int32} {last : Int32} {below : Int64} {i : Int32}   : MM Z yX0_columnOf cX0_columnOf 2 (some .int) 0 [.ref (Z.2.2 1), .int i] (wC Z n toll paid coin debt fall shr mat rgt pen last below) (some (.int (if i = n then nI 4 else i))) (wC Z n toll paid coin debt fall shr mat rgt pen last below) := by
  refine MM.intro (by decide) [some (.ref (Z.2.2 1)), some (.int i)] rfl (Nat.le_of_ble_eq_true rfl) (fun X (h : OK Z X cX0_columnOf RX0 2 (rmd 0)) hr => ?_)
  refine g_iload_n (i := 1) h dX0_columnOf_0 rfl rfl (pc' := 1) rfl ?_
  refine g_aload_n (i := 0) h dX0_columnOf_1 rfl rfl (pc' := 2) rfl ?_
  refine gf_X0_11 h dX0_columnOf_2 (pc' := 5) rfl ?_
  refine g_icmp_ne (tg := 12) h dX0_columnOf_5 (by decide) (pc' := 8) rfl (fun c1 => ?_) (fun c1 => ?_)
  · skip
    refine g_iload_n (i := 1) h dX0_columnOf_12 rfl rfl (pc' := 13) rfl ?_
    exact g_iret h hr dX0_columnOf_13 (by first | rfl | simp only [if_neg c1] | simp [c1]) rfl
  · skip
    refine g_iconst (v := nI 4) h dX0_columnOf_8 (by decide) (pc' := 9) rfl ?_
    refine g_goto (pc' := 13) h dX0_columnOf_9 (by decide) ?_
    exact g_iret h hr dX0_columnOf_13 (by first | rfl | simp only [if_pos c1] | simp [c1]) rfl
set_option maxRecDepth 20000 in
set_option maxHeartbeats 4000000 in
theorem M_X0_coins {Z : ZT} {n : Int32} {toll : Int32} {paid : Int32} {coin : Nat → Int32} {debt : Nat → Int32} {fall : Nat → Int32} {shr : Nat → Int64} {mat : Nat → Int64} {rgt : Nat → Int64} {pen : Int32} {last : Int32} {below : Int64} {i : Nat}  (g0 : i < 4) : MM Z yX0_coins cX0_coins 2 (some .int) 1 [.ref (Z.2.2 1), .int (nI i)] (wC Z n toll paid coin debt fall shr mat rgt pen last below) (some (.int (coin i))) (wC Z n toll paid coin debt fall shr mat rgt pen last below) := by
  refine MM.intro (by decide) [some (.ref (Z.2.2 1)), some (.int (nI i))] rfl (Nat.le_of_ble_eq_true rfl) (fun X (h : OK Z X cX0_coins RX0 2 (rmd 1)) hr => ?_)
  refine g_aload_n (i := 0) h dX0_coins_0 rfl rfl (pc' := 1) rfl ?_
  refine gf_X0_21 h dX0_coins_1 (pc' := 4) rfl ?_
  refine g_iload_n (i := 1) h dX0_coins_4 rfl rfl (pc' := 5) rfl ?_
  refine g_callN1 h dX0_coins_5 cf_X0_32 (M_X3_at_4 (k := i) (by omega)) rfl (by decide) rfl (Nat.le_of_ble_eq_true rfl) (pc' := 8) rfl ?_
  exact g_iret h hr dX0_coins_8 rfl rfl
set_option maxRecDepth 20000 in
set_option maxHeartbeats 4000000 in
theorem M_X0_setCoins {Z : ZT} {n : Int32} {toll : Int32} {paid : Int32} {coin : Nat → Int32} {debt : Nat → Int32} {fall : Nat → Int32} {shr : Nat → Int64} {mat : Nat → Int64} {rgt : Nat → Int64} {pen : Int32} {last : Int32} {below : Int64} {i : Nat} {v : Int32}  (g0 : i < 4) : MM Z yX0_setCoins cX0_setCoins 3 none 1 [.ref (Z.2.2 1), .int (nI i), .int v] (wC Z n toll paid coin debt fall shr mat rgt pen last below) none (wC Z n toll paid (upd coin i v) debt fall shr mat rgt pen last below) := by
  refine MM.intro (by decide) [some (.ref (Z.2.2 1)), some (.int (nI i)), some (.int v)] rfl (Nat.le_of_ble_eq_true rfl) (fun X (h : OK Z X cX0_setCoins RX0 3 (rmd 1)) hr => ?_)
  refine g_aload_n (i := 0) h dX0_setCoins_0 rfl rfl (pc' := 1) rfl ?_
  refine gf_X0_21 h dX0_setCoins_1 (pc' := 4) rfl ?_
  refine g_iload_n (i := 1) h dX0_setCoins_4 rfl rfl (pc' := 5) rfl ?_
  refine g_iload_n (i := 2) h dX0_setCoins_5 rfl rfl (pc' := 6) rfl ?_
  refine g_callN0 h dX0_setCoins_6 cf_X0_28 (M_X3_put_4 (k := i) (x := v) (by omega)) rfl (by decide) rfl (Nat.le_of_ble_eq_true rfl) (pc' := 9) rfl ?_
  exact g_vret h hr dX0_setCoins_9 rfl rfl
set_option maxRecDepth 20000 in
set_option maxHeartbeats 4000000 in
theorem M_X0_owed {Z : ZT} {n : Int32} {toll : Int32} {paid : Int32} {coin : Nat → Int32} {debt : Nat → Int32} {fall : Nat → Int32} {shr : Nat → Int64} {mat : Nat → Int64} {rgt : Nat → Int64} {pen : Int32} {last : Int32} {below : Int64} {i : Nat} {c : Nat}  (g0 : i < 4) (g1 : c < 5) : MM Z yX0_owed cX0_owed 3 (some .int) 1 [.ref (Z.2.2 1), .int (nI i), .int (nI c)] (wC Z n toll paid coin debt fall shr mat rgt pen last below) (some (.int (debt (i * 5 + c)))) (wC Z n toll paid coin debt fall shr mat rgt pen last below) := by
  refine MM.intro (by decide) [some (.ref (Z.2.2 1)), some (.int (nI i)), some (.int (nI c))] rfl (Nat.le_of_ble_eq_true rfl) (fun X (h : OK Z X cX0_owed RX0 3 (rmd 1)) hr => ?_)
  refine g_aload_n (i := 0) h dX0_owed_0 rfl rfl (pc' := 1) rfl ?_
  refine gf_X0_25 h dX0_owed_1 (pc' := 4) rfl ?_
  refine g_iload_n (i := 1) h dX0_owed_4 rfl rfl (pc' := 5) rfl ?_
  refine g_iconst (v := nI 5) h dX0_owed_5 (by decide) (pc' := 6) rfl ?_
  refine g_imulN h dX0_owed_6 (pc' := 7) rfl ?_
  refine g_iload_n (i := 2) h dX0_owed_7 rfl rfl (pc' := 8) rfl ?_
  refine g_iaddN h dX0_owed_8 (pc' := 9) rfl ?_
  refine g_callN1 h dX0_owed_9 cf_X0_32 (M_X3_at_5 (k := (i * 5) + c) (by omega)) rfl (by decide) rfl (Nat.le_of_ble_eq_true rfl) (pc' := 12) rfl ?_
  exact g_iret h hr dX0_owed_12 rfl rfl
set_option maxRecDepth 20000 in
set_option maxHeartbeats 4000000 in
theorem M_X0_setOwed {Z : ZT} {n : Int32} {toll : Int32} {paid : Int32} {coin : Nat → Int32} {debt : Nat → Int32} {fall : Nat → Int32} {shr : Nat → Int64} {mat : Nat → Int64} {rgt : Nat → Int64} {pen : Int32} {last : Int32} {below : Int64} {i : Nat} {c : Nat} {v : Int32}  (g0 : i < 4) (g1 : c < 5) : MM Z yX0_setOwed cX0_setOwed 4 none 1 [.ref (Z.2.2 1), .int (nI i), .int (nI c), .int v] (wC Z n toll paid coin debt fall shr mat rgt pen last below) none (wC Z n toll paid coin (upd debt (i * 5 + c) v) fall shr mat rgt pen last below) := by
  refine MM.intro (by decide) [some (.ref (Z.2.2 1)), some (.int (nI i)), some (.int (nI c)), some (.int v)] rfl (Nat.le_of_ble_eq_true rfl) (fun X (h : OK Z X cX0_setOwed RX0 4 (rmd 1)) hr => ?_)
  refine g_aload_n (i := 0) h dX0_setOwed_0 rfl rfl (pc' := 1) rfl ?_
  refine gf_X0_25 h dX0_setOwed_1 (pc' := 4) rfl ?_
  refine g_iload_n (i := 1) h dX0_setOwed_4 rfl rfl (pc' := 5) rfl ?_
  refine g_iconst (v := nI 5) h dX0_setOwed_5 (by decide) (pc' := 6) rfl ?_
  refine g_imulN h dX0_setOwed_6 (pc' := 7) rfl ?_
  refine g_iload_n (i := 2) h dX0_setOwed_7 rfl rfl (pc' := 8) rfl ?_
  refine g_iaddN h dX0_setOwed_8 (pc' := 9) rfl ?_
  refine g_iload_n (i := 3) h dX0_setOwed_9 rfl rfl (pc' := 10) rfl ?_
  refine g_callN0 h dX0_setOwed_10 cf_X0_28 (M_X3_put_5 (k := (i * 5) + c) (x := v) (by omega)) rfl (by decide) rfl (Nat.le_of_ble_eq_true rfl) (pc' := 13) rfl ?_
  exact g_vret h hr dX0_setOwed_13 rfl rfl
set_option maxRecDepth 20000 in
set_option maxHeartbeats 4000000 in
theorem M_X0_allOwedBy {Z : ZT} {n : Int32} {toll : Int32} {paid : Int32} {coin : Nat → Int32} {debt : Nat → Int32} {fall : Nat → Int32} {shr : Nat → Int64} {mat : Nat → Int64} {rgt : Nat → Int64} {pen : Int32} {last : Int32} {below : Int64} {i : Nat}  (g0 : i < 4) : MM Z yX0_allOwedBy cX0_allOwedBy 4 (some .int) 2 [.ref (Z.2.2 1), .int (nI i)] (wC Z n toll paid coin debt fall shr mat rgt pen last below) (some (.int (oB debt i))) (wC Z n toll paid coin debt fall shr mat rgt pen last below) := by
  refine MM.intro (by decide) [some (.ref (Z.2.2 1)), some (.int (nI i)), none, none] rfl (Nat.le_of_ble_eq_true rfl) (fun X (h : OK Z X cX0_allOwedBy RX0 4 (rmd 2)) hr => ?_)
  refine g_iconst (v := nI 0) h dX0_allOwedBy_0 (by decide) (pc' := 1) rfl ?_
  refine g_istore2 h dX0_allOwedBy_1 rfl (by decide) (pc' := 2) rfl ?_
  refine g_iconst (v := nI 0) h dX0_allOwedBy_2 (by decide) (pc' := 3) rfl ?_
  refine g_istore3 h dX0_allOwedBy_3 rfl (by decide) (pc' := 4) rfl ?_
  refine GG.castW (lp (P := fun j => GG Z X 4 [some (.ref (Z.2.2 1)), some (.int (nI i)), some (.int (sI (fun k => debt (i * 5 + k)) j)), some (.int (nI j))] [] (wC Z n toll paid coin debt fall shr mat rgt pen last below)) 5 ?_ ?_) ⟨rfl, rfl, rfl, rfl, trivial⟩ rfl rfl
  · skip
    refine g_iload_n (i := 3) h dX0_allOwedBy_4 rfl rfl (pc' := 5) rfl ?_
    refine g_iconst (v := nI 5) h dX0_allOwedBy_5 (by decide) (pc' := 6) rfl ?_
    refine g_icmp_geT (tg := 24) h dX0_allOwedBy_6 (by decide) (Int32.le_refl _) ?_
    refine g_iload_n (i := 2) h dX0_allOwedBy_24 rfl rfl (pc' := 25) rfl ?_
    exact g_iret h hr dX0_allOwedBy_25 rfl rfl
  · intro j hj ih4
    refine g_iload_n (i := 3) h dX0_allOwedBy_4 rfl rfl (pc' := 5) rfl ?_
    refine g_iconst (v := nI 5) h dX0_allOwedBy_5 (by decide) (pc' := 6) rfl ?_
    refine g_icmp_geF (tg := 24) h dX0_allOwedBy_6 (by decide) (pc' := 9) rfl (nI_ge hj (by omega)) ?_
    refine g_iload_n (i := 2) h dX0_allOwedBy_9 rfl rfl (pc' := 10) rfl ?_
    refine g_aload_n (i := 0) h dX0_allOwedBy_10 rfl rfl (pc' := 11) rfl ?_
    refine g_iload_n (i := 1) h dX0_allOwedBy_11 rfl rfl (pc' := 12) rfl ?_
    refine g_iload_n (i := 3) h dX0_allOwedBy_12 rfl rfl (pc' := 13) rfl ?_
    refine g_callV1 (q0 := 1) h dX0_allOwedBy_13 cf_X0_36 (M_X0_owed (i := i) (c := j) (by omega) (by omega)) rfl rfl rfl rfl (by decide) rfl (Nat.le_of_ble_eq_true rfl) (pc' := 16) rfl ?_
    refine g_iadd h dX0_allOwedBy_16 (pc' := 17) rfl ?_
    refine g_istore2 h dX0_allOwedBy_17 rfl (by decide) (pc' := 18) rfl ?_
    refine g_iinc3 (v := nI (j + 1)) h dX0_allOwedBy_18 rfl (inc1 j) (by decide) (pc' := 21) rfl ?_
    refine g_goto (pc' := 4) h dX0_allOwedBy_21 (by decide) ?_
    exact GG.castW ih4 ⟨rfl, rfl, rfl, rfl, trivial⟩ rfl rfl
set_option maxRecDepth 20000 in
set_option maxHeartbeats 4000000 in
theorem M_X0_allOwedTo {Z : ZT} {n : Int32} {toll : Int32} {paid : Int32} {coin : Nat → Int32} {debt : Nat → Int32} {fall : Nat → Int32} {shr : Nat → Int64} {mat : Nat → Int64} {rgt : Nat → Int64} {pen : Int32} {last : Int32} {below : Int64} {c : Nat}  (g0 : c < 5) : MM Z yX0_allOwedTo cX0_allOwedTo 4 (some .int) 2 [.ref (Z.2.2 1), .int (nI c)] (wC Z n toll paid coin debt fall shr mat rgt pen last below) (some (.int (oT debt c))) (wC Z n toll paid coin debt fall shr mat rgt pen last below) := by
  refine MM.intro (by decide) [some (.ref (Z.2.2 1)), some (.int (nI c)), none, none] rfl (Nat.le_of_ble_eq_true rfl) (fun X (h : OK Z X cX0_allOwedTo RX0 4 (rmd 2)) hr => ?_)
  refine g_iconst (v := nI 0) h dX0_allOwedTo_0 (by decide) (pc' := 1) rfl ?_
  refine g_istore2 h dX0_allOwedTo_1 rfl (by decide) (pc' := 2) rfl ?_
  refine g_iconst (v := nI 0) h dX0_allOwedTo_2 (by decide) (pc' := 3) rfl ?_
  refine g_istore3 h dX0_allOwedTo_3 rfl (by decide) (pc' := 4) rfl ?_
  refine GG.castW (lp (P := fun j => GG Z X 4 [some (.ref (Z.2.2 1)), some (.int (nI c)), some (.int (sI (fun i => debt (i * 5 + c)) j)), some (.int (nI j))] [] (wC Z n toll paid coin debt fall shr mat rgt pen last below)) 4 ?_ ?_) ⟨rfl, rfl, rfl, rfl, trivial⟩ rfl rfl
  · skip
    refine g_iload_n (i := 3) h dX0_allOwedTo_4 rfl rfl (pc' := 5) rfl ?_
    refine g_iconst (v := nI 4) h dX0_allOwedTo_5 (by decide) (pc' := 6) rfl ?_
    refine g_icmp_geT (tg := 24) h dX0_allOwedTo_6 (by decide) (Int32.le_refl _) ?_
    refine g_iload_n (i := 2) h dX0_allOwedTo_24 rfl rfl (pc' := 25) rfl ?_
    exact g_iret h hr dX0_allOwedTo_25 rfl rfl
  · intro j hj ih4
    refine g_iload_n (i := 3) h dX0_allOwedTo_4 rfl rfl (pc' := 5) rfl ?_
    refine g_iconst (v := nI 4) h dX0_allOwedTo_5 (by decide) (pc' := 6) rfl ?_
    refine g_icmp_geF (tg := 24) h dX0_allOwedTo_6 (by decide) (pc' := 9) rfl (nI_ge hj (by omega)) ?_
    refine g_iload_n (i := 2) h dX0_allOwedTo_9 rfl rfl (pc' := 10) rfl ?_
    refine g_aload_n (i := 0) h dX0_allOwedTo_10 rfl rfl (pc' := 11) rfl ?_
    refine g_iload_n (i := 3) h dX0_allOwedTo_11 rfl rfl (pc' := 12) rfl ?_
    refine g_iload_n (i := 1) h dX0_allOwedTo_12 rfl rfl (pc' := 13) rfl ?_
    refine g_callV1 (q0 := 1) h dX0_allOwedTo_13 cf_X0_36 (M_X0_owed (i := j) (c := c) (by omega) (by omega)) rfl rfl rfl rfl (by decide) rfl (Nat.le_of_ble_eq_true rfl) (pc' := 16) rfl ?_
    refine g_iadd h dX0_allOwedTo_16 (pc' := 17) rfl ?_
    refine g_istore2 h dX0_allOwedTo_17 rfl (by decide) (pc' := 18) rfl ?_
    refine g_iinc3 (v := nI (j + 1)) h dX0_allOwedTo_18 rfl (inc1 j) (by decide) (pc' := 21) rfl ?_
    refine g_goto (pc' := 4) h dX0_allOwedTo_21 (by decide) ?_
    exact GG.castW ih4 ⟨rfl, rfl, rfl, rfl, trivial⟩ rfl rfl
set_option maxRecDepth 20000 in
set_option maxHeartbeats 4000000 in
theorem M_X0_allCoins {Z : ZT} {n : Int32} {toll : Int32} {paid : Int32} {coin : Nat → Int32} {debt : Nat → Int32} {fall : Nat → Int32} {shr : Nat → Int64} {mat : Nat → Int64} {rgt : Nat → Int64} {pen : Int32} {last : Int32} {below : Int64}    : MM Z yX0_allCoins cX0_allCoins 3 (some .int) 2 [.ref (Z.2.2 1)] (wC Z n toll paid coin debt fall shr mat rgt pen last below) (some (.int (sI coin 4))) (wC Z n toll paid coin debt fall shr mat rgt pen last below) := by
  refine MM.intro (by decide) [some (.ref (Z.2.2 1)), none, none] rfl (Nat.le_of_ble_eq_true rfl) (fun X (h : OK Z X cX0_allCoins RX0 3 (rmd 2)) hr => ?_)
  refine g_iconst (v := nI 0) h dX0_allCoins_0 (by decide) (pc' := 1) rfl ?_
  refine g_istore1 h dX0_allCoins_1 rfl (by decide) (pc' := 2) rfl ?_
  refine g_iconst (v := nI 0) h dX0_allCoins_2 (by decide) (pc' := 3) rfl ?_
  refine g_istore2 h dX0_allCoins_3 rfl (by decide) (pc' := 4) rfl ?_
  refine GG.castW (lp (P := fun j => GG Z X 4 [some (.ref (Z.2.2 1)), some (.int (sI coin j)), some (.int (nI j))] [] (wC Z n toll paid coin debt fall shr mat rgt pen last below)) 4 ?_ ?_) ⟨rfl, rfl, rfl, trivial⟩ rfl rfl
  · skip
    refine g_iload_n (i := 2) h dX0_allCoins_4 rfl rfl (pc' := 5) rfl ?_
    refine g_iconst (v := nI 4) h dX0_allCoins_5 (by decide) (pc' := 6) rfl ?_
    refine g_icmp_geT (tg := 23) h dX0_allCoins_6 (by decide) (Int32.le_refl _) ?_
    refine g_iload_n (i := 1) h dX0_allCoins_23 rfl rfl (pc' := 24) rfl ?_
    exact g_iret h hr dX0_allCoins_24 rfl rfl
  · intro j hj ih4
    refine g_iload_n (i := 2) h dX0_allCoins_4 rfl rfl (pc' := 5) rfl ?_
    refine g_iconst (v := nI 4) h dX0_allCoins_5 (by decide) (pc' := 6) rfl ?_
    refine g_icmp_geF (tg := 23) h dX0_allCoins_6 (by decide) (pc' := 9) rfl (nI_ge hj (by omega)) ?_
    refine g_iload_n (i := 1) h dX0_allCoins_9 rfl rfl (pc' := 10) rfl ?_
    refine g_aload_n (i := 0) h dX0_allCoins_10 rfl rfl (pc' := 11) rfl ?_
    refine g_iload_n (i := 2) h dX0_allCoins_11 rfl rfl (pc' := 12) rfl ?_
    refine g_callV1 (q0 := 1) h dX0_allCoins_12 cf_X0_40 (M_X0_coins (i := j) (by omega)) rfl rfl rfl rfl (by decide) rfl (Nat.le_of_ble_eq_true rfl) (pc' := 15) rfl ?_
    refine g_iadd h dX0_allCoins_15 (pc' := 16) rfl ?_
    refine g_istore1 h dX0_allCoins_16 rfl (by decide) (pc' := 17) rfl ?_
    refine g_iinc2 (v := nI (j + 1)) h dX0_allCoins_17 rfl (inc1 j) (by decide) (pc' := 20) rfl ?_
    refine g_goto (pc' := 4) h dX0_allCoins_20 (by decide) ?_
    exact GG.castW ih4 ⟨rfl, rfl, rfl, trivial⟩ rfl rfl
set_option maxRecDepth 20000 in
set_option maxHeartbeats 4000000 in
theorem M_X0_allDebts {Z : ZT} {n : Int32} {toll : Int32} {paid : Int32} {coin : Nat → Int32} {debt : Nat → Int32} {fall : Nat → Int32} {shr : Nat → Int64} {mat : Nat → Int64} {rgt : Nat → Int64} {pen : Int32} {last : Int32} {below : Int64}    : MM Z yX0_allDebts cX0_allDebts 3 (some .int) 3 [.ref (Z.2.2 1)] (wC Z n toll paid coin debt fall shr mat rgt pen last below) (some (.int (sI (oB debt) 4))) (wC Z n toll paid coin debt fall shr mat rgt pen last below) := by
  refine MM.intro (by decide) [some (.ref (Z.2.2 1)), none, none] rfl (Nat.le_of_ble_eq_true rfl) (fun X (h : OK Z X cX0_allDebts RX0 3 (rmd 3)) hr => ?_)
  refine g_iconst (v := nI 0) h dX0_allDebts_0 (by decide) (pc' := 1) rfl ?_
  refine g_istore1 h dX0_allDebts_1 rfl (by decide) (pc' := 2) rfl ?_
  refine g_iconst (v := nI 0) h dX0_allDebts_2 (by decide) (pc' := 3) rfl ?_
  refine g_istore2 h dX0_allDebts_3 rfl (by decide) (pc' := 4) rfl ?_
  refine GG.castW (lp (P := fun j => GG Z X 4 [some (.ref (Z.2.2 1)), some (.int (sI (oB debt) j)), some (.int (nI j))] [] (wC Z n toll paid coin debt fall shr mat rgt pen last below)) 4 ?_ ?_) ⟨rfl, rfl, rfl, trivial⟩ rfl rfl
  · skip
    refine g_iload_n (i := 2) h dX0_allDebts_4 rfl rfl (pc' := 5) rfl ?_
    refine g_iconst (v := nI 4) h dX0_allDebts_5 (by decide) (pc' := 6) rfl ?_
    refine g_icmp_geT (tg := 23) h dX0_allDebts_6 (by decide) (Int32.le_refl _) ?_
    refine g_iload_n (i := 1) h dX0_allDebts_23 rfl rfl (pc' := 24) rfl ?_
    exact g_iret h hr dX0_allDebts_24 rfl rfl
  · intro j hj ih4
    refine g_iload_n (i := 2) h dX0_allDebts_4 rfl rfl (pc' := 5) rfl ?_
    refine g_iconst (v := nI 4) h dX0_allDebts_5 (by decide) (pc' := 6) rfl ?_
    refine g_icmp_geF (tg := 23) h dX0_allDebts_6 (by decide) (pc' := 9) rfl (nI_ge hj (by omega)) ?_
    refine g_iload_n (i := 1) h dX0_allDebts_9 rfl rfl (pc' := 10) rfl ?_
    refine g_aload_n (i := 0) h dX0_allDebts_10 rfl rfl (pc' := 11) rfl ?_
    refine g_iload_n (i := 2) h dX0_allDebts_11 rfl rfl (pc' := 12) rfl ?_
    refine g_callV1 (q0 := 1) h dX0_allDebts_12 cf_X0_44 (M_X0_allOwedBy (i := j) (by omega)) rfl rfl rfl rfl (by decide) rfl (Nat.le_of_ble_eq_true rfl) (pc' := 15) rfl ?_
    refine g_iadd h dX0_allDebts_15 (pc' := 16) rfl ?_
    refine g_istore1 h dX0_allDebts_16 rfl (by decide) (pc' := 17) rfl ?_
    refine g_iinc2 (v := nI (j + 1)) h dX0_allDebts_17 rfl (inc1 j) (by decide) (pc' := 20) rfl ?_
    refine g_goto (pc' := 4) h dX0_allDebts_20 (by decide) ?_
    exact GG.castW ih4 ⟨rfl, rfl, rfl, trivial⟩ rfl rfl
set_option maxRecDepth 20000 in
set_option maxHeartbeats 4000000 in
theorem M_X0_debtorCount {Z : ZT} {n : Int32} {toll : Int32} {paid : Int32} {coin : Nat → Int32} {debt : Nat → Int32} {fall : Nat → Int32} {shr : Nat → Int64} {mat : Nat → Int64} {rgt : Nat → Int64} {pen : Int32} {last : Int32} {below : Int64}    : MM Z yX0_debtorCount cX0_debtorCount 3 (some .int) 3 [.ref (Z.2.2 1)] (wC Z n toll paid coin debt fall shr mat rgt pen last below) (some (.int (nI (dC debt 4)))) (wC Z n toll paid coin debt fall shr mat rgt pen last below) := by
  refine MM.intro (by decide) [some (.ref (Z.2.2 1)), none, none] rfl (Nat.le_of_ble_eq_true rfl) (fun X (h : OK Z X cX0_debtorCount RX0 3 (rmd 3)) hr => ?_)
  refine g_iconst (v := nI 0) h dX0_debtorCount_0 (by decide) (pc' := 1) rfl ?_
  refine g_istore1 h dX0_debtorCount_1 rfl (by decide) (pc' := 2) rfl ?_
  refine g_iconst (v := nI 0) h dX0_debtorCount_2 (by decide) (pc' := 3) rfl ?_
  refine g_istore2 h dX0_debtorCount_3 rfl (by decide) (pc' := 4) rfl ?_
  refine GG.castW (lp (P := fun j => GG Z X 4 [some (.ref (Z.2.2 1)), some (.int (nI (dC debt j))), some (.int (nI j))] [] (wC Z n toll paid coin debt fall shr mat rgt pen last below)) 4 ?_ ?_) ⟨rfl, rfl, rfl, trivial⟩ rfl rfl
  · skip
    refine g_iload_n (i := 2) h dX0_debtorCount_4 rfl rfl (pc' := 5) rfl ?_
    refine g_iconst (v := nI 4) h dX0_debtorCount_5 (by decide) (pc' := 6) rfl ?_
    refine g_icmp_geT (tg := 26) h dX0_debtorCount_6 (by decide) (Int32.le_refl _) ?_
    refine g_iload_n (i := 1) h dX0_debtorCount_26 rfl rfl (pc' := 27) rfl ?_
    exact g_iret h hr dX0_debtorCount_27 rfl rfl
  · intro j hj ih4
    refine g_iload_n (i := 2) h dX0_debtorCount_4 rfl rfl (pc' := 5) rfl ?_
    refine g_iconst (v := nI 4) h dX0_debtorCount_5 (by decide) (pc' := 6) rfl ?_
    refine g_icmp_geF (tg := 26) h dX0_debtorCount_6 (by decide) (pc' := 9) rfl (nI_ge hj (by omega)) ?_
    refine g_aload_n (i := 0) h dX0_debtorCount_9 rfl rfl (pc' := 10) rfl ?_
    refine g_iload_n (i := 2) h dX0_debtorCount_10 rfl rfl (pc' := 11) rfl ?_
    refine g_callV1 (q0 := 1) h dX0_debtorCount_11 cf_X0_44 (M_X0_allOwedBy (i := j) (by omega)) rfl rfl rfl rfl (by decide) rfl (Nat.le_of_ble_eq_true rfl) (pc' := 14) rfl ?_
    refine g_if_le (tg := 20) h dX0_debtorCount_14 (by decide) (pc' := 17) rfl (fun c1 => ?_) (fun c1 => ?_)
    · skip
      refine g_iinc2 (v := nI (j + 1)) h dX0_debtorCount_20 rfl (inc1 j) (by decide) (pc' := 23) rfl ?_
      refine g_goto (pc' := 4) h dX0_debtorCount_23 (by decide) ?_
      exact GG.castW ih4 ⟨rfl, (by simp only [List.head?_cons, List.tail_cons, dC, if_pos c1]), rfl, trivial⟩ rfl rfl
    · skip
      refine g_iinc1 (v := nI (dC debt j + 1)) h dX0_debtorCount_17 rfl (inc1 (dC debt j)) (by decide) (pc' := 20) rfl ?_
      refine g_iinc2 (v := nI (j + 1)) h dX0_debtorCount_20 rfl (inc1 j) (by decide) (pc' := 23) rfl ?_
      refine g_goto (pc' := 4) h dX0_debtorCount_23 (by decide) ?_
      exact GG.castW ih4 ⟨rfl, (by simp only [List.head?_cons, List.tail_cons, dC, if_neg c1]), rfl, trivial⟩ rfl rfl
set_option maxRecDepth 20000 in
set_option maxHeartbeats 4000000 in
theorem M_X0_shortfall {Z : ZT} {n : Int32} {toll : Int32} {paid : Int32} {coin : Nat → Int32} {debt : Nat → Int32} {fall : Nat → Int32} {shr : Nat → Int64} {mat : Nat → Int64} {rgt : Nat → Int64} {pen : Int32} {last : Int32} {below : Int64} {i : Nat}  (g0 : i < 4) : MM Z yX0_shortfall cX0_shortfall 2 (some .int) 3 [.ref (Z.2.2 1), .int (nI i)] (wC Z n toll paid coin debt fall shr mat rgt pen last below) (some (.int (sf coin debt i))) (wC Z n toll paid coin debt fall shr mat rgt pen last below) := by
  refine MM.intro (by decide) [some (.ref (Z.2.2 1)), some (.int (nI i))] rfl (Nat.le_of_ble_eq_true rfl) (fun X (h : OK Z X cX0_shortfall RX0 2 (rmd 3)) hr => ?_)
  refine g_aload_n (i := 0) h dX0_shortfall_0 rfl rfl (pc' := 1) rfl ?_
  refine g_iload_n (i := 1) h dX0_shortfall_1 rfl rfl (pc' := 2) rfl ?_
  refine g_callV1 (q0 := 1) h dX0_shortfall_2 cf_X0_44 (M_X0_allOwedBy (i := i) (by omega)) rfl rfl rfl rfl (by decide) rfl (Nat.le_of_ble_eq_true rfl) (pc' := 5) rfl ?_
  refine g_aload_n (i := 0) h dX0_shortfall_5 rfl rfl (pc' := 6) rfl ?_
  refine g_iload_n (i := 1) h dX0_shortfall_6 rfl rfl (pc' := 7) rfl ?_
  refine g_callV1 (q0 := 1) h dX0_shortfall_7 cf_X0_40 (M_X0_coins (i := i) (by omega)) rfl rfl rfl rfl (by decide) rfl (Nat.le_of_ble_eq_true rfl) (pc' := 10) rfl ?_
  refine g_isub h dX0_shortfall_10 (pc' := 11) rfl ?_
  refine g_aload_n (i := 0) h dX0_shortfall_11 rfl rfl (pc' := 12) rfl ?_
  refine g_iload_n (i := 1) h dX0_shortfall_12 rfl rfl (pc' := 13) rfl ?_
  refine g_callV1 (q0 := 1) h dX0_shortfall_13 cf_X0_47 (M_X0_allOwedTo (c := i) (by omega)) rfl rfl rfl rfl (by decide) rfl (Nat.le_of_ble_eq_true rfl) (pc' := 16) rfl ?_
  refine g_isub h dX0_shortfall_16 (pc' := 17) rfl ?_
  exact g_iret h hr dX0_shortfall_17 rfl rfl
set_option maxRecDepth 20000 in
set_option maxHeartbeats 4000000 in
theorem M_X0_helpNeeded {Z : ZT} {n : Int32} {toll : Int32} {paid : Int32} {coin : Nat → Int32} {debt : Nat → Int32} {fall : Nat → Int32} {shr : Nat → Int64} {mat : Nat → Int64} {rgt : Nat → Int64} {pen : Int32} {last : Int32} {below : Int64} {i : Nat}  (g0 : i < 4) : MM Z yX0_helpNeeded cX0_helpNeeded 3 (some .int) 4 [.ref (Z.2.2 1), .int (nI i)] (wC Z n toll paid coin debt fall shr mat rgt pen last below) (some (.int (hN coin debt i))) (wC Z n toll paid coin debt fall shr mat rgt pen last below) := by
  refine MM.intro (by decide) [some (.ref (Z.2.2 1)), some (.int (nI i)), none] rfl (Nat.le_of_ble_eq_true rfl) (fun X (h : OK Z X cX0_helpNeeded RX0 3 (rmd 4)) hr => ?_)
  refine g_iconst (v := nI 0) h dX0_helpNeeded_0 (by decide) (pc' := 1) rfl ?_
  refine g_istore2 h dX0_helpNeeded_1 rfl (by decide) (pc' := 2) rfl ?_
  have key2 : ∀ (k : Nat) (j : Nat), (j + k = 4) → (bad (sf coin debt) i j = false) → GG Z X 2 [some (.ref (Z.2.2 1)), some (.int (nI i)), some (.int (nI j))] [] (wC Z n toll paid coin debt fall shr mat rgt pen last below) := by
    intro k
    induction k with
    | zero =>
      intro j e2_0 e2_1
      refine g_iload_n (i := 2) h dX0_helpNeeded_2 rfl rfl (pc' := 3) rfl ?_
      refine g_iconst (v := nI 4) h dX0_helpNeeded_3 (by decide) (pc' := 4) rfl ?_
      refine g_icmp_geT (tg := 28) h dX0_helpNeeded_4 (by decide) (by rw [show j = 4 by omega]; exact Int32.le_refl _) ?_
      refine g_iconst (v := nI 0) h dX0_helpNeeded_28 (by decide) (pc' := 29) rfl ?_
      refine g_aload_n (i := 0) h dX0_helpNeeded_29 rfl rfl (pc' := 30) rfl ?_
      refine g_iload_n (i := 1) h dX0_helpNeeded_30 rfl rfl (pc' := 31) rfl ?_
      refine g_callV1 (q0 := 1) h dX0_helpNeeded_31 cf_X0_50 (M_X0_shortfall (i := i) (by omega)) rfl rfl rfl rfl (by decide) rfl (Nat.le_of_ble_eq_true rfl) (pc' := 34) rfl ?_
      refine g_mmax ml_X0_53 ms_max mi_math mc_max h dX0_helpNeeded_34 (by decide) (Nat.le_of_ble_eq_true rfl) (pc' := 37) rfl ?_
      exact g_iret h hr dX0_helpNeeded_37 (by rw [show j = 4 by omega] at e2_1; simp [hN, e2_1]) rfl
    | succ k ih2 =>
      intro j e2_0 e2_1
      have hj : j < 4 := by omega
      refine g_iload_n (i := 2) h dX0_helpNeeded_2 rfl rfl (pc' := 3) rfl ?_
      refine g_iconst (v := nI 4) h dX0_helpNeeded_3 (by decide) (pc' := 4) rfl ?_
      refine g_icmp_geF (tg := 28) h dX0_helpNeeded_4 (by decide) (pc' := 7) rfl (nI_ge hj (by decide)) ?_
      refine g_iload_n (i := 2) h dX0_helpNeeded_7 rfl rfl (pc' := 8) rfl ?_
      refine g_iload_n (i := 1) h dX0_helpNeeded_8 rfl rfl (pc' := 9) rfl ?_
      refine g_icmp_eq (tg := 22) h dX0_helpNeeded_9 (by decide) (pc' := 12) rfl (fun c1 => ?_) (fun c1 => ?_)
      · skip
        refine g_iinc2 (v := nI (j + 1)) h dX0_helpNeeded_22 rfl (inc1 j) (by decide) (pc' := 25) rfl ?_
        refine g_goto (pc' := 2) h dX0_helpNeeded_25 (by decide) ?_
        exact GG.castW (ih2 (j + 1) (by omega) (by rw [bad, e2_1]; simp [((nI_eq (by omega) (by omega)).mp c1)])) ⟨rfl, rfl, rfl, trivial⟩ rfl rfl
      · skip
        refine g_aload_n (i := 0) h dX0_helpNeeded_12 rfl rfl (pc' := 13) rfl ?_
        refine g_iload_n (i := 2) h dX0_helpNeeded_13 rfl rfl (pc' := 14) rfl ?_
        refine g_callV1 (q0 := 1) h dX0_helpNeeded_14 cf_X0_50 (M_X0_shortfall (i := j) (by omega)) rfl rfl rfl rfl (by decide) rfl (Nat.le_of_ble_eq_true rfl) (pc' := 17) rfl ?_
        refine g_if_le (tg := 22) h dX0_helpNeeded_17 (by decide) (pc' := 20) rfl (fun c2 => ?_) (fun c2 => ?_)
        · skip
          refine g_iinc2 (v := nI (j + 1)) h dX0_helpNeeded_22 rfl (inc1 j) (by decide) (pc' := 25) rfl ?_
          refine g_goto (pc' := 2) h dX0_helpNeeded_25 (by decide) ?_
          exact GG.castW (ih2 (j + 1) (by omega) (by rw [bad, e2_1]; simp [c1, c2])) ⟨rfl, rfl, rfl, trivial⟩ rfl rfl
        · skip
          refine g_iconst (v := (-1)) h dX0_helpNeeded_20 (by decide) (pc' := 21) rfl ?_
          exact g_iret h hr dX0_helpNeeded_21 (by have hb : bad (sf coin debt) i 4 = true := bad_le (j := j + 1) (by omega) (by rw [bad]; simp [c2]; exact Or.inr (fun q : j = i => c1 (by rw [q]))); simp [hN, hb]) rfl
  exact GG.castW (key2 4 0 rfl rfl) ⟨rfl, rfl, rfl, trivial⟩ rfl rfl
set_option maxRecDepth 20000 in
set_option maxHeartbeats 4000000 in
theorem M_X0_payWhole {Z : ZT} {n : Int32} {toll : Int32} {paid : Int32} {coin : Nat → Int32} {debt : Nat → Int32} {fall : Nat → Int32} {shr : Nat → Int64} {mat : Nat → Int64} {rgt : Nat → Int64} {pen : Int32} {last : Int32} {below : Int64} {i : Nat} {c : Nat}  (g0 : i < 4) (g1 : c < 5) : MM Z yX0_payWhole cX0_payWhole 4 (some .int) 2 [.ref (Z.2.2 1), .int (nI i), .int (nI c)] (wC Z n toll paid coin debt fall shr mat rgt pen last below) (some (.int (nI (pwN coin debt i c)))) (wC Z n toll (pwP paid coin debt i c) (pwC coin debt i c) (pwD coin debt i c) fall shr mat rgt pen last below) := by
  refine MM.intro (by decide) [some (.ref (Z.2.2 1)), some (.int (nI i)), some (.int (nI c)), none] rfl (Nat.le_of_ble_eq_true rfl) (fun X (h : OK Z X cX0_payWhole RX0 4 (rmd 2)) hr => ?_)
  refine g_aload_n (i := 0) h dX0_payWhole_0 rfl rfl (pc' := 1) rfl ?_
  refine g_iload_n (i := 1) h dX0_payWhole_1 rfl rfl (pc' := 2) rfl ?_
  refine g_iload_n (i := 2) h dX0_payWhole_2 rfl rfl (pc' := 3) rfl ?_
  refine g_callV1 (q0 := 1) h dX0_payWhole_3 cf_X0_36 (M_X0_owed (i := i) (c := c) (by omega) (by omega)) rfl rfl rfl rfl (by decide) rfl (Nat.le_of_ble_eq_true rfl) (pc' := 6) rfl ?_
  refine g_istore3 h dX0_payWhole_6 rfl (by decide) (pc' := 7) rfl ?_
  refine g_iload_n (i := 3) h dX0_payWhole_7 rfl rfl (pc' := 8) rfl ?_
  refine g_if_eq (tg := 20) h dX0_payWhole_8 (by decide) (pc' := 11) rfl (fun c1 => ?_) (fun c1 => ?_)
  · skip
    refine g_iconst (v := nI 0) h dX0_payWhole_20 (by decide) (pc' := 21) rfl ?_
    exact g_iret h hr dX0_payWhole_21 (by have hp : ¬ pays coin debt i c := fun q => (by first | exact q.1 c1 | exact c2 q.2); simp only [pwN, if_neg hp]) (by have hp : ¬ pays coin debt i c := fun q => (by first | exact q.1 c1 | exact c2 q.2); simp only [pwP, pwC, pwD, if_neg hp, if_neg (fun q : pays coin debt i c ∧ c = 4 => hp q.1)])
  · skip
    refine g_aload_n (i := 0) h dX0_payWhole_11 rfl rfl (pc' := 12) rfl ?_
    refine g_iload_n (i := 1) h dX0_payWhole_12 rfl rfl (pc' := 13) rfl ?_
    refine g_callV1 (q0 := 1) h dX0_payWhole_13 cf_X0_40 (M_X0_coins (i := i) (by omega)) rfl rfl rfl rfl (by decide) rfl (Nat.le_of_ble_eq_true rfl) (pc' := 16) rfl ?_
    refine g_iload_n (i := 3) h dX0_payWhole_16 rfl rfl (pc' := 17) rfl ?_
    refine g_icmp_ge (tg := 22) h dX0_payWhole_17 (by decide) (pc' := 20) rfl (fun c2 => ?_) (fun c2 => ?_)
    · skip
      refine g_aload_n (i := 0) h dX0_payWhole_22 rfl rfl (pc' := 23) rfl ?_
      refine g_iload_n (i := 1) h dX0_payWhole_23 rfl rfl (pc' := 24) rfl ?_
      refine g_iload_n (i := 2) h dX0_payWhole_24 rfl rfl (pc' := 25) rfl ?_
      refine g_iconst (v := nI 0) h dX0_payWhole_25 (by decide) (pc' := 26) rfl ?_
      refine g_callV0 (q0 := 1) h dX0_payWhole_26 cf_X0_61 (M_X0_setOwed (i := i) (c := c) (v := nI 0) (by omega) (by omega)) rfl rfl rfl rfl (by decide) rfl (Nat.le_of_ble_eq_true rfl) (pc' := 29) rfl ?_
      refine g_aload_n (i := 0) h dX0_payWhole_29 rfl rfl (pc' := 30) rfl ?_
      refine g_iload_n (i := 1) h dX0_payWhole_30 rfl rfl (pc' := 31) rfl ?_
      refine g_aload_n (i := 0) h dX0_payWhole_31 rfl rfl (pc' := 32) rfl ?_
      refine g_iload_n (i := 1) h dX0_payWhole_32 rfl rfl (pc' := 33) rfl ?_
      refine g_callV1 (q0 := 1) h dX0_payWhole_33 cf_X0_40 (M_X0_coins (i := i) (by omega)) rfl rfl rfl rfl (by decide) rfl (Nat.le_of_ble_eq_true rfl) (pc' := 36) rfl ?_
      refine g_iload_n (i := 3) h dX0_payWhole_36 rfl rfl (pc' := 37) rfl ?_
      refine g_isub h dX0_payWhole_37 (pc' := 38) rfl ?_
      refine g_callV0 (q0 := 1) h dX0_payWhole_38 cf_X0_65 (M_X0_setCoins (i := i) (v := (coin i) - (debt (i * 5 + c))) (by omega)) rfl rfl rfl rfl (by decide) rfl (Nat.le_of_ble_eq_true rfl) (pc' := 41) rfl ?_
      refine g_iload_n (i := 2) h dX0_payWhole_41 rfl rfl (pc' := 42) rfl ?_
      refine g_iconst (v := nI 4) h dX0_payWhole_42 (by decide) (pc' := 43) rfl ?_
      refine g_icmp_ne (tg := 59) h dX0_payWhole_43 (by decide) (pc' := 46) rfl (fun c3 => ?_) (fun c3 => ?_)
      · skip
        have hc4 : ¬ c = 4 := fun q => c3 (by rw [q])
        refine g_aload_n (i := 0) h dX0_payWhole_59 rfl rfl (pc' := 60) rfl ?_
        refine g_iload_n (i := 2) h dX0_payWhole_60 rfl rfl (pc' := 61) rfl ?_
        refine g_aload_n (i := 0) h dX0_payWhole_61 rfl rfl (pc' := 62) rfl ?_
        refine g_iload_n (i := 2) h dX0_payWhole_62 rfl rfl (pc' := 63) rfl ?_
        refine g_callV1 (q0 := 1) h dX0_payWhole_63 cf_X0_40 (M_X0_coins (i := c) (by omega)) rfl rfl rfl rfl (by decide) rfl (Nat.le_of_ble_eq_true rfl) (pc' := 66) rfl ?_
        refine g_iload_n (i := 3) h dX0_payWhole_66 rfl rfl (pc' := 67) rfl ?_
        refine g_iadd h dX0_payWhole_67 (pc' := 68) rfl ?_
        refine g_callV0 (q0 := 1) h dX0_payWhole_68 cf_X0_65 (M_X0_setCoins (i := c) (v := ((upd coin i ((coin i) - (debt (i * 5 + c)))) c) + (debt (i * 5 + c))) (by omega)) rfl rfl rfl rfl (by decide) rfl (Nat.le_of_ble_eq_true rfl) (pc' := 71) rfl ?_
        refine g_iconst (v := nI 1) h dX0_payWhole_71 (by decide) (pc' := 72) rfl ?_
        exact g_iret h hr dX0_payWhole_72 (by have hp : pays coin debt i c := ⟨c1, c2⟩; simp only [pwN, if_pos hp]) (by have hp : pays coin debt i c := ⟨c1, c2⟩; first | (simp only [pwP, pwC, pwC1, pwD, if_pos hp, if_pos hc4, if_pos (And.intro hp hc4)]; done) | simp only [pwP, pwC, pwC1, pwD, if_pos hp, if_neg hc4, if_neg (fun q : pays coin debt i c ∧ c = 4 => hc4 q.2)])
      · skip
        have hc4 : c = 4 := (nI_eq (by omega) (by omega)).mp c3
        refine g_aload_n (i := 0) h dX0_payWhole_46 rfl rfl (pc' := 47) rfl ?_
        refine g_dupR h dX0_payWhole_47 (pc' := 48) rfl ?_
        refine gf_X0_18 h dX0_payWhole_48 (pc' := 51) rfl ?_
        refine g_iload_n (i := 3) h dX0_payWhole_51 rfl rfl (pc' := 52) rfl ?_
        refine g_iadd h dX0_payWhole_52 (pc' := 53) rfl ?_
        refine pf_X0_18 h dX0_payWhole_53 (pc' := 56) rfl ?_
        refine g_goto (pc' := 71) h dX0_payWhole_56 (by decide) ?_
        refine g_iconst (v := nI 1) h dX0_payWhole_71 (by decide) (pc' := 72) rfl ?_
        exact g_iret h hr dX0_payWhole_72 (by have hp : pays coin debt i c := ⟨c1, c2⟩; simp only [pwN, if_pos hp]) (by have hp : pays coin debt i c := ⟨c1, c2⟩; first | (simp only [pwP, pwC, pwC1, pwD, if_pos hp, if_pos hc4, if_pos (And.intro hp hc4)]; done) | simp only [pwP, pwC, pwC1, pwD, if_pos hp, if_neg hc4, if_neg (fun q : pays coin debt i c ∧ c = 4 => hc4 q.2)])
    · skip
      refine g_iconst (v := nI 0) h dX0_payWhole_20 (by decide) (pc' := 21) rfl ?_
      exact g_iret h hr dX0_payWhole_21 (by have hp : ¬ pays coin debt i c := fun q => (by first | exact q.1 c1 | exact c2 q.2); simp only [pwN, if_neg hp]) (by have hp : ¬ pays coin debt i c := fun q => (by first | exact q.1 c1 | exact c2 q.2); simp only [pwP, pwC, pwD, if_neg hp, if_neg (fun q : pays coin debt i c ∧ c = 4 => hp q.1)])
set_option maxRecDepth 20000 in
set_option maxHeartbeats 4000000 in
theorem M_X0_passDay {Z : ZT} {n : Int32} {toll : Int32} {paid : Int32} {coin : Nat → Int32} {debt : Nat → Int32} {fall : Nat → Int32} {shr : Nat → Int64} {mat : Nat → Int64} {rgt : Nat → Int64} {pen : Int32} {last : Int32} {below : Int64}    : MM Z yX0_passDay cX0_passDay 4 (some .int) 3 [.ref (Z.2.2 1)] (wC Z n toll paid coin debt fall shr mat rgt pen last below) (some (.int (nI ((pDay 4 (0, paid, coin, debt)).1)))) (wC Z n toll ((pDay 4 (0, paid, coin, debt)).2.1) ((pDay 4 (0, paid, coin, debt)).2.2.1) ((pDay 4 (0, paid, coin, debt)).2.2.2) fall shr mat rgt pen last below) := by
  refine MM.intro (by decide) [some (.ref (Z.2.2 1)), none, none, none] rfl (Nat.le_of_ble_eq_true rfl) (fun X (h : OK Z X cX0_passDay RX0 4 (rmd 3)) hr => ?_)
  refine g_iconst (v := nI 0) h dX0_passDay_0 (by decide) (pc' := 1) rfl ?_
  refine g_istore1 h dX0_passDay_1 rfl (by decide) (pc' := 2) rfl ?_
  refine g_iconst (v := nI 0) h dX0_passDay_2 (by decide) (pc' := 3) rfl ?_
  refine g_istore2 h dX0_passDay_3 rfl (by decide) (pc' := 4) rfl ?_
  refine GG.castW (lp (P := fun i => GG Z X 4 [some (.ref (Z.2.2 1)), some (.int (nI ((pDay i (0, paid, coin, debt)).1))), some (.int (nI i)), none] [] (wC Z n toll ((pDay i (0, paid, coin, debt)).2.1) ((pDay i (0, paid, coin, debt)).2.2.1) ((pDay i (0, paid, coin, debt)).2.2.2) fall shr mat rgt pen last below)) 4 ?_ ?_) ⟨rfl, rfl, rfl, trivial⟩ rfl rfl
  · skip
    refine g_iload_n (i := 2) h dX0_passDay_4 rfl rfl (pc' := 5) rfl ?_
    refine g_iconst (v := nI 4) h dX0_passDay_5 (by decide) (pc' := 6) rfl ?_
    refine g_icmp_geT (tg := 46) h dX0_passDay_6 (by decide) (Int32.le_refl _) ?_
    refine g_iload_n (i := 1) h dX0_passDay_46 rfl rfl (pc' := 47) rfl ?_
    exact g_iret h hr dX0_passDay_47 rfl rfl
  · intro i hi ih4
    refine g_iload_n (i := 2) h dX0_passDay_4 rfl rfl (pc' := 5) rfl ?_
    refine g_iconst (v := nI 4) h dX0_passDay_5 (by decide) (pc' := 6) rfl ?_
    refine g_icmp_geF (tg := 46) h dX0_passDay_6 (by decide) (pc' := 9) rfl (nI_ge hi (by omega)) ?_
    refine g_iload_n (i := 1) h dX0_passDay_9 rfl rfl (pc' := 10) rfl ?_
    refine g_aload_n (i := 0) h dX0_passDay_10 rfl rfl (pc' := 11) rfl ?_
    refine g_iload_n (i := 2) h dX0_passDay_11 rfl rfl (pc' := 12) rfl ?_
    refine g_iconst (v := nI 4) h dX0_passDay_12 (by decide) (pc' := 13) rfl ?_
    refine g_callV1 (q0 := 1) h dX0_passDay_13 cf_X0_58 (M_X0_payWhole (i := i) (c := 4) (by omega) (by omega)) rfl rfl rfl rfl (by decide) rfl (Nat.le_of_ble_eq_true rfl) (pc' := 16) rfl ?_
    refine g_iaddN h dX0_passDay_16 (pc' := 17) rfl ?_
    refine g_istore1 h dX0_passDay_17 rfl (by decide) (pc' := 18) rfl ?_
    refine g_iconst (v := nI 0) h dX0_passDay_18 (by decide) (pc' := 19) rfl ?_
    refine g_istore3 h dX0_passDay_19 rfl (by decide) (pc' := 20) rfl ?_
    refine GG.castW (lp (P := fun j => GG Z X 20 [some (.ref (Z.2.2 1)), some (.int (nI ((pRow i j (pDay i (0, paid, coin, debt))).1))), some (.int (nI i)), some (.int (nI j))] [] (wC Z n toll ((pRow i j (pDay i (0, paid, coin, debt))).2.1) ((pRow i j (pDay i (0, paid, coin, debt))).2.2.1) ((pRow i j (pDay i (0, paid, coin, debt))).2.2.2) fall shr mat rgt pen last below)) 4 ?_ ?_) ⟨rfl, rfl, rfl, rfl, trivial⟩ rfl rfl
    · skip
      refine g_iload_n (i := 3) h dX0_passDay_20 rfl rfl (pc' := 21) rfl ?_
      refine g_iconst (v := nI 4) h dX0_passDay_21 (by decide) (pc' := 22) rfl ?_
      refine g_icmp_geT (tg := 40) h dX0_passDay_22 (by decide) (Int32.le_refl _) ?_
      refine g_iinc2 (v := nI (i + 1)) h dX0_passDay_40 rfl (inc1 i) (by decide) (pc' := 43) rfl ?_
      refine g_goto (pc' := 4) h dX0_passDay_43 (by decide) ?_
      exact GG.castW ih4 ⟨rfl, rfl, rfl, trivial⟩ rfl rfl
    · intro j hj ih20
      refine g_iload_n (i := 3) h dX0_passDay_20 rfl rfl (pc' := 21) rfl ?_
      refine g_iconst (v := nI 4) h dX0_passDay_21 (by decide) (pc' := 22) rfl ?_
      refine g_icmp_geF (tg := 40) h dX0_passDay_22 (by decide) (pc' := 25) rfl (nI_ge hj (by omega)) ?_
      refine g_iload_n (i := 1) h dX0_passDay_25 rfl rfl (pc' := 26) rfl ?_
      refine g_aload_n (i := 0) h dX0_passDay_26 rfl rfl (pc' := 27) rfl ?_
      refine g_iload_n (i := 2) h dX0_passDay_27 rfl rfl (pc' := 28) rfl ?_
      refine g_iload_n (i := 3) h dX0_passDay_28 rfl rfl (pc' := 29) rfl ?_
      refine g_callV1 (q0 := 1) h dX0_passDay_29 cf_X0_58 (M_X0_payWhole (i := i) (c := j) (by omega) (by omega)) rfl rfl rfl rfl (by decide) rfl (Nat.le_of_ble_eq_true rfl) (pc' := 32) rfl ?_
      refine g_iaddN h dX0_passDay_32 (pc' := 33) rfl ?_
      refine g_istore1 h dX0_passDay_33 rfl (by decide) (pc' := 34) rfl ?_
      refine g_iinc3 (v := nI (j + 1)) h dX0_passDay_34 rfl (inc1 j) (by decide) (pc' := 37) rfl ?_
      refine g_goto (pc' := 20) h dX0_passDay_37 (by decide) ?_
      exact GG.castW ih20 ⟨rfl, rfl, rfl, rfl, trivial⟩ rfl rfl
end
section
def uC (pen : Int32) (coin : Nat → Int32) (i : Nat) : Int32 := if nI i = pen then nI 0 else coin i
abbrev fl (fall : Nat → Int32) (i : Nat) : Prop := ¬ fall i ≤ 0
def gA (below : Int64) (pen : Int32) (coin debt : Nat → Int32) (shr : Nat → Int64) (i : Nat) : Nat → Int64
  | 0 => below * (uC pen coin i).toInt64
  | j + 1 => gA below pen coin debt shr i j + shr j * (debt (j * 5 + i)).toInt64
abbrev aC (below : Int64) (pen : Int32) (coin debt : Nat → Int32) (shr : Nat → Int64) (fall : Nat → Int32) (i : Nat) : Prop := ¬ fl fall i ∧ ¬ below * (oB debt i).toInt64 ≤ gA below pen coin debt shr i 4
def aF (r : Int32) (below : Int64) (pen : Int32) (coin debt : Nat → Int32) (shr : Nat → Int64) (fall : Nat → Int32) : Nat → Nat → Int32
  | 0 => fall
  | i + 1 => if aC below pen coin debt shr (aF r below pen coin debt shr fall i) i then upd (aF r below pen coin debt shr fall i) i r else aF r below pen coin debt shr fall i
def aA (r : Int32) (below : Int64) (pen : Int32) (coin debt : Nat → Int32) (shr : Nat → Int64) (fall : Nat → Int32) : Nat → Nat
  | 0 => 0
  | i + 1 => if aC below pen coin debt shr (aF r below pen coin debt shr fall i) i then 1 else aA r below pen coin debt shr fall i
theorem aA_le {r : Int32} {below : Int64} {pen : Int32} {coin debt : Nat → Int32} {shr : Nat → Int64} {fall : Nat → Int32} : ∀ n, aA r below pen coin debt shr fall n ≤ 1
  | 0 => Nat.zero_le _
  | n + 1 => by
    rw [aA]
    split
    · exact Nat.le_refl _
    · exact aA_le n
theorem nar01 {x : Nat} (h : x ≤ 1) : narrow .boolean (.int (nI x)) = .int (nI x) := by
  rcases (show x = 0 ∨ x = 1 by omega) with rfl | rfl <;> rfl
def wM (toll : Int32) (debt fall : Nat → Int32) (mat : Nat → Int64) (i : Nat) : Nat → Nat → Int64
  | 0 => mat
  | j + 1 => vp_updL (wM toll debt fall mat i j) (i * 4 + j) (if fl fall i then (-(nI 10 - toll) * debt (j * 5 + i)).toInt64 else 0)
def wMd (toll : Int32) (debt fall : Nat → Int32) (mat : Nat → Int64) (i : Nat) : Nat → Int64 := vp_updL (wM toll debt fall mat i 4) (i * 4 + i) (if fl fall i then (nI 10 * oB debt i).toInt64 else 1)
def wRt (toll pen : Int32) (coin fall : Nat → Int32) (rgt : Nat → Int64) (i : Nat) : Nat → Int64 := vp_updL rgt i (if fl fall i then ((nI 10 - toll) * uC pen coin i).toInt64 else 1)
def en (mat rgt : Nat → Int64) (p : Int32) (r c : Nat) : Int64 := if nI c = p then rgt r else mat (r * 4 + c)
def mi (mat rgt : Nat → Int64) (p : Int32) (r a b : Nat) : Int64 := en mat rgt p r a * en mat rgt p (r + 1) b - en mat rgt p r b * en mat rgt p (r + 1) a
def dt (mat rgt : Nat → Int64) (p : Int32) : Int64 := mi mat rgt p 0 0 1 * mi mat rgt p 2 2 3 - mi mat rgt p 0 0 2 * mi mat rgt p 2 1 3 + mi mat rgt p 0 0 3 * mi mat rgt p 2 1 2 + mi mat rgt p 0 1 2 * mi mat rgt p 2 0 3 - mi mat rgt p 0 1 3 * mi mat rgt p 2 0 2 + mi mat rgt p 0 2 3 * mi mat rgt p 2 0 1
abbrev mT : Type := (Nat → Int64) × (Nat → Int64)
def wEs (toll pen : Int32) (coin debt fall : Nat → Int32) (m : mT) : Nat → mT
  | 0 => m
  | i + 1 => (wMd toll debt fall (wEs toll pen coin debt fall m i).1 i, wRt toll pen coin fall (wEs toll pen coin debt fall m i).2 i)
def sS (mat rgt shr : Nat → Int64) : Nat → Nat → Int64
  | 0 => shr
  | i + 1 => vp_updL (sS mat rgt shr i) i (dt mat rgt (nI i))
def oS (f : Nat → Int64) (j : Nat) : Nat → Int64 := fun k => if k < j then 1 else f k
theorem oS_0 (f : Nat → Int64) : oS f 0 = f := by funext k; simp [oS]
theorem oS_s (f : Nat → Int64) (j : Nat) : vp_updL (oS f j) j 1 = oS f (j + 1) := by
  funext k
  simp only [vp_updL, oS]
  by_cases h : k = j
  · subst h; simp
  · by_cases h2 : k < j
    · simp [h, h2, Nat.lt_succ_of_lt h2]
    · simp [h, h2, show ¬ k < j + 1 by omega]
/-- who fell when, the shares, the equations, the last round, the number below -/
abbrev cT : Type := (Nat → Int32) × (Nat → Int64) × (Nat → Int64) × (Nat → Int64) × Int32 × Int64
/-- the shares anew, in round r -/
def slv (toll pen : Int32) (coin debt : Nat → Int32) (fall : Nat → Int32) (r : Int32) (s : cT) : cT :=
  let m := wEs toll pen coin debt fall (s.2.2.1, s.2.2.2.1) 4
  (fall, sS m.1 m.2 s.2.1 4, m.1, m.2, r, dt m.1 m.2 (-1))
def stl (toll pen : Int32) (coin debt : Nat → Int32) : Nat → Nat → cT → cT
  | 0, _, s => s
  | k + 1, r, s => if nI (aA (nI r) s.2.2.2.2.2 pen coin debt s.2.1 s.1 4) = 0 then (aF (nI r) s.2.2.2.2.2 pen coin debt s.2.1 s.1 4, s.2) else
      stl toll pen coin debt k (r + 1) (slv toll pen coin debt (aF (nI r) s.2.2.2.2.2 pen coin debt s.2.1 s.1 4) (nI r) s)
/-- cleared, with house p without its coins -/
def cst (toll pen : Int32) (coin debt : Nat → Int32) (fall : Nat → Int32) (shr mat rgt : Nat → Int64) : cT := stl toll pen coin debt 4 1 (zf fall 4, oS shr 4, mat, rgt, nI 0, 1)
def fC (fall : Nat → Int32) : Nat → Nat
  | 0 => 0
  | i + 1 => if fl fall i then fC fall i + 1 else fC fall i
def lA (toll : Int32) (below : Int64) (pen : Int32) (coin debt : Nat → Int32) (shr : Nat → Int64) (fall : Nat → Int32) : Nat → Int64
  | 0 => 0
  | i + 1 => if fl fall i then lA toll below pen coin debt shr fall i + gA below pen coin debt shr i 4 * toll.toInt64 else lA toll below pen coin debt shr fall i
set_option maxRecDepth 20000 in
set_option maxHeartbeats 4000000 in
theorem M_X1_usableCoins {Z : ZT} {n : Int32} {toll : Int32} {paid : Int32} {coin : Nat → Int32} {debt : Nat → Int32} {fall : Nat → Int32} {shr : Nat → Int64} {mat : Nat → Int64} {rgt : Nat → Int64} {pen : Int32} {last : Int32} {below : Int64} {i : Nat}  (g0 : i < 4) : MM Z yX1_usableCoins cX1_usableCoins 2 (some .int) 2 [.ref (Z.2.2 2), .int (nI i)] (wC Z n toll paid coin debt fall shr mat rgt pen last below) (some (.int (uC pen coin i))) (wC Z n toll paid coin debt fall shr mat rgt pen last below) := by
  refine MM.intro (by decide) [some (.ref (Z.2.2 2)), some (.int (nI i))] rfl (Nat.le_of_ble_eq_true rfl) (fun X (h : OK Z X cX1_usableCoins RX1 2 (rmd 2)) hr => ?_)
  refine g_iload_n (i := 1) h dX1_usableCoins_0 rfl rfl (pc' := 1) rfl ?_
  refine g_aload_n (i := 0) h dX1_usableCoins_1 rfl rfl (pc' := 2) rfl ?_
  refine gf_X1_25 h dX1_usableCoins_2 (pc' := 5) rfl ?_
  refine g_icmp_ne (tg := 12) h dX1_usableCoins_5 (by decide) (pc' := 8) rfl (fun c1 => ?_) (fun c1 => ?_)
  · skip
    refine g_aload_n (i := 0) h dX1_usableCoins_12 rfl rfl (pc' := 13) rfl ?_
    refine gf_X1_36 h dX1_usableCoins_13 (pc' := 16) rfl ?_
    refine g_iload_n (i := 1) h dX1_usableCoins_16 rfl rfl (pc' := 17) rfl ?_
    refine g_callV1 (q0 := 1) h dX1_usableCoins_17 cf_X1_71 (M_X0_coins (i := i) (by omega)) rfl rfl rfl rfl (by decide) rfl (Nat.le_of_ble_eq_true rfl) (pc' := 20) rfl ?_
    exact g_iret h hr dX1_usableCoins_20 (by simp only [uC, if_neg c1]) rfl
  · skip
    refine g_iconst (v := nI 0) h dX1_usableCoins_8 (by decide) (pc' := 9) rfl ?_
    refine g_goto (pc' := 20) h dX1_usableCoins_9 (by decide) ?_
    exact g_iret h hr dX1_usableCoins_20 (by simp only [uC, if_pos c1]) rfl
set_option maxRecDepth 20000 in
set_option maxHeartbeats 4000000 in
theorem M_X1_roundOfFall {Z : ZT} {n : Int32} {toll : Int32} {paid : Int32} {coin : Nat → Int32} {debt : Nat → Int32} {fall : Nat → Int32} {shr : Nat → Int64} {mat : Nat → Int64} {rgt : Nat → Int64} {pen : Int32} {last : Int32} {below : Int64} {i : Nat}  (g0 : i < 4) : MM Z yX1_roundOfFall cX1_roundOfFall 2 (some .int) 1 [.ref (Z.2.2 2), .int (nI i)] (wC Z n toll paid coin debt fall shr mat rgt pen last below) (some (.int (fall i))) (wC Z n toll paid coin debt fall shr mat rgt pen last below) := by
  refine MM.intro (by decide) [some (.ref (Z.2.2 2)), some (.int (nI i))] rfl (Nat.le_of_ble_eq_true rfl) (fun X (h : OK Z X cX1_roundOfFall RX1 2 (rmd 1)) hr => ?_)
  refine g_aload_n (i := 0) h dX1_roundOfFall_0 rfl rfl (pc' := 1) rfl ?_
  refine gf_X1_9 h dX1_roundOfFall_1 (pc' := 4) rfl ?_
  refine g_iload_n (i := 1) h dX1_roundOfFall_4 rfl rfl (pc' := 5) rfl ?_
  refine g_callN1 h dX1_roundOfFall_5 cf_X1_103 (M_X3_at_6 (k := i) (by omega)) rfl (by decide) rfl (Nat.le_of_ble_eq_true rfl) (pc' := 8) rfl ?_
  exact g_iret h hr dX1_roundOfFall_8 rfl rfl
set_option maxRecDepth 20000 in
set_option maxHeartbeats 4000000 in
theorem M_X1_isFallen {Z : ZT} {n : Int32} {toll : Int32} {paid : Int32} {coin : Nat → Int32} {debt : Nat → Int32} {fall : Nat → Int32} {shr : Nat → Int64} {mat : Nat → Int64} {rgt : Nat → Int64} {pen : Int32} {last : Int32} {below : Int64} {i : Nat}  (g0 : i < 4) : MM Z yX1_isFallen cX1_isFallen 2 (some .boolean) 2 [.ref (Z.2.2 2), .int (nI i)] (wC Z n toll paid coin debt fall shr mat rgt pen last below) (some (.int (bI (fl fall i)))) (wC Z n toll paid coin debt fall shr mat rgt pen last below) := by
  refine MM.intro (by decide) [some (.ref (Z.2.2 2)), some (.int (nI i))] rfl (Nat.le_of_ble_eq_true rfl) (fun X (h : OK Z X cX1_isFallen RX1 2 (rmd 2)) hr => ?_)
  refine g_aload_n (i := 0) h dX1_isFallen_0 rfl rfl (pc' := 1) rfl ?_
  refine g_iload_n (i := 1) h dX1_isFallen_1 rfl rfl (pc' := 2) rfl ?_
  refine g_callV1 (q0 := 2) h dX1_isFallen_2 cf_X1_68 (M_X1_roundOfFall (i := i) (by omega)) rfl rfl rfl rfl (by decide) rfl (Nat.le_of_ble_eq_true rfl) (pc' := 5) rfl ?_
  refine g_if_le (tg := 12) h dX1_isFallen_5 (by decide) (pc' := 8) rfl (fun c1 => ?_) (fun c1 => ?_)
  · skip
    refine g_iconst (v := nI 0) h dX1_isFallen_12 (by decide) (pc' := 13) rfl ?_
    exact g_zret h hr dX1_isFallen_13 (by decide) (by simp [bI, fl, c1, nI0, nI1]) rfl
  · skip
    refine g_iconst (v := nI 1) h dX1_isFallen_8 (by decide) (pc' := 9) rfl ?_
    refine g_goto (pc' := 13) h dX1_isFallen_9 (by decide) ?_
    exact g_zret h hr dX1_isFallen_13 (by decide) (by simp [bI, fl, c1, nI0, nI1]) rfl
set_option maxRecDepth 20000 in
set_option maxHeartbeats 4000000 in
theorem M_X1_shareAbove {Z : ZT} {n : Int32} {toll : Int32} {paid : Int32} {coin : Nat → Int32} {debt : Nat → Int32} {fall : Nat → Int32} {shr : Nat → Int64} {mat : Nat → Int64} {rgt : Nat → Int64} {pen : Int32} {last : Int32} {below : Int64} {i : Nat}  (g0 : i < 4) : MM Z yX1_shareAbove cX1_shareAbove 2 (some .long) 1 [.ref (Z.2.2 2), .int (nI i)] (wC Z n toll paid coin debt fall shr mat rgt pen last below) (some (.long (shr i))) (wC Z n toll paid coin debt fall shr mat rgt pen last below) := by
  refine MM.intro (by decide) [some (.ref (Z.2.2 2)), some (.int (nI i))] rfl (Nat.le_of_ble_eq_true rfl) (fun X (h : OK Z X cX1_shareAbove RX1 2 (rmd 1)) hr => ?_)
  refine g_aload_n (i := 0) h dX1_shareAbove_0 rfl rfl (pc' := 1) rfl ?_
  refine gf_X1_15 h dX1_shareAbove_1 (pc' := 4) rfl ?_
  refine g_iload_n (i := 1) h dX1_shareAbove_4 rfl rfl (pc' := 5) rfl ?_
  refine g_callN1 h dX1_shareAbove_5 cf_X1_99 (M_X3_longAt_7 (k := i) (by omega)) rfl (by decide) rfl (Nat.le_of_ble_eq_true rfl) (pc' := 8) rfl ?_
  exact g_lret h hr dX1_shareAbove_8 rfl rfl
set_option maxRecDepth 20000 in
set_option maxHeartbeats 4000000 in
theorem M_X1_grossAbove {Z : ZT} {n : Int32} {toll : Int32} {paid : Int32} {coin : Nat → Int32} {debt : Nat → Int32} {fall : Nat → Int32} {shr : Nat → Int64} {mat : Nat → Int64} {rgt : Nat → Int64} {pen : Int32} {last : Int32} {below : Int64} {i : Nat}  (g0 : i < 4) : MM Z yX1_grossAbove cX1_grossAbove 5 (some .long) 3 [.ref (Z.2.2 2), .int (nI i)] (wC Z n toll paid coin debt fall shr mat rgt pen last below) (some (.long (gA below pen coin debt shr i 4))) (wC Z n toll paid coin debt fall shr mat rgt pen last below) := by
  refine MM.intro (by decide) [some (.ref (Z.2.2 2)), some (.int (nI i)), none, none, none] rfl (Nat.le_of_ble_eq_true rfl) (fun X (h : OK Z X cX1_grossAbove RX1 5 (rmd 3)) hr => ?_)
  refine g_aload_n (i := 0) h dX1_grossAbove_0 rfl rfl (pc' := 1) rfl ?_
  refine gf_X1_32 h dX1_grossAbove_1 (pc' := 4) rfl ?_
  refine g_aload_n (i := 0) h dX1_grossAbove_4 rfl rfl (pc' := 5) rfl ?_
  refine g_iload_n (i := 1) h dX1_grossAbove_5 rfl rfl (pc' := 6) rfl ?_
  refine g_callV1 (q0 := 2) h dX1_grossAbove_6 cf_X1_88 (M_X1_usableCoins (i := i) (by omega)) rfl rfl rfl rfl (by decide) rfl (Nat.le_of_ble_eq_true rfl) (pc' := 9) rfl ?_
  refine g_i2l h dX1_grossAbove_9 (pc' := 10) rfl ?_
  refine g_lmul h dX1_grossAbove_10 (pc' := 11) rfl ?_
  refine g_lstore2 h dX1_grossAbove_11 rfl (by decide) (pc' := 12) rfl ?_
  refine g_iconst (v := nI 0) h dX1_grossAbove_12 (by decide) (pc' := 13) rfl ?_
  refine g_istore4 h dX1_grossAbove_13 rfl (by decide) (pc' := 15) rfl ?_
  refine GG.castW (lp (P := fun j => GG Z X 15 [some (.ref (Z.2.2 2)), some (.int (nI i)), some (.long (gA below pen coin debt shr i j)), none, some (.int (nI j))] [] (wC Z n toll paid coin debt fall shr mat rgt pen last below)) 4 ?_ ?_) ⟨rfl, rfl, rfl, rfl, trivial⟩ rfl rfl
  · skip
    refine g_iload h dX1_grossAbove_15 rfl (pc' := 17) rfl ?_
    refine g_iconst (v := nI 4) h dX1_grossAbove_17 (by decide) (pc' := 18) rfl ?_
    refine g_icmp_geT (tg := 48) h dX1_grossAbove_18 (by decide) (Int32.le_refl _) ?_
    refine g_lload_n (i := 2) h dX1_grossAbove_48 rfl rfl (pc' := 49) rfl ?_
    exact g_lret h hr dX1_grossAbove_49 rfl rfl
  · intro j hj ih15
    refine g_iload h dX1_grossAbove_15 rfl (pc' := 17) rfl ?_
    refine g_iconst (v := nI 4) h dX1_grossAbove_17 (by decide) (pc' := 18) rfl ?_
    refine g_icmp_geF (tg := 48) h dX1_grossAbove_18 (by decide) (pc' := 21) rfl (nI_ge hj (by omega)) ?_
    refine g_lload_n (i := 2) h dX1_grossAbove_21 rfl rfl (pc' := 22) rfl ?_
    refine g_aload_n (i := 0) h dX1_grossAbove_22 rfl rfl (pc' := 23) rfl ?_
    refine g_iload h dX1_grossAbove_23 rfl (pc' := 25) rfl ?_
    refine g_callV1 (q0 := 2) h dX1_grossAbove_25 cf_X1_107 (M_X1_shareAbove (i := j) (by omega)) rfl rfl rfl rfl (by decide) rfl (Nat.le_of_ble_eq_true rfl) (pc' := 28) rfl ?_
    refine g_aload_n (i := 0) h dX1_grossAbove_28 rfl rfl (pc' := 29) rfl ?_
    refine gf_X1_36 h dX1_grossAbove_29 (pc' := 32) rfl ?_
    refine g_iload h dX1_grossAbove_32 rfl (pc' := 34) rfl ?_
    refine g_iload_n (i := 1) h dX1_grossAbove_34 rfl rfl (pc' := 35) rfl ?_
    refine g_callV1 (q0 := 1) h dX1_grossAbove_35 cf_X1_84 (M_X0_owed (i := j) (c := i) (by omega) (by omega)) rfl rfl rfl rfl (by decide) rfl (Nat.le_of_ble_eq_true rfl) (pc' := 38) rfl ?_
    refine g_i2l h dX1_grossAbove_38 (pc' := 39) rfl ?_
    refine g_lmul h dX1_grossAbove_39 (pc' := 40) rfl ?_
    refine g_ladd h dX1_grossAbove_40 (pc' := 41) rfl ?_
    refine g_lstore2 h dX1_grossAbove_41 rfl (by decide) (pc' := 42) rfl ?_
    refine g_iinc4 (v := nI (j + 1)) h dX1_grossAbove_42 rfl (inc1 j) (by decide) (pc' := 45) rfl ?_
    refine g_goto (pc' := 15) h dX1_grossAbove_45 (by decide) ?_
    exact GG.castW ih15 ⟨rfl, rfl, rfl, rfl, trivial⟩ rfl rfl
set_option maxRecDepth 20000 in
set_option maxHeartbeats 4000000 in
theorem M_X1_anyFallIn {Z : ZT} {n : Int32} {toll : Int32} {paid : Int32} {coin : Nat → Int32} {debt : Nat → Int32} {fall : Nat → Int32} {shr : Nat → Int64} {mat : Nat → Int64} {rgt : Nat → Int64} {pen : Int32} {last : Int32} {below : Int64} {r : Nat}   : MM Z yX1_anyFallIn cX1_anyFallIn 4 (some .boolean) 4 [.ref (Z.2.2 2), .int (nI r)] (wC Z n toll paid coin debt fall shr mat rgt pen last below) (some (.int (nI (aA (nI r) below pen coin debt shr fall 4)))) (wC Z n toll paid coin debt (aF (nI r) below pen coin debt shr fall 4) shr mat rgt pen last below) := by
  refine MM.intro (by decide) [some (.ref (Z.2.2 2)), some (.int (nI r)), none, none] rfl (Nat.le_of_ble_eq_true rfl) (fun X (h : OK Z X cX1_anyFallIn RX1 4 (rmd 4)) hr => ?_)
  refine g_iconst (v := nI 0) h dX1_anyFallIn_0 (by decide) (pc' := 1) rfl ?_
  refine g_istore2 h dX1_anyFallIn_1 rfl (by decide) (pc' := 2) rfl ?_
  refine g_iconst (v := nI 0) h dX1_anyFallIn_2 (by decide) (pc' := 3) rfl ?_
  refine g_istore3 h dX1_anyFallIn_3 rfl (by decide) (pc' := 4) rfl ?_
  refine GG.castW (lp (P := fun j => GG Z X 4 [some (.ref (Z.2.2 2)), some (.int (nI r)), some (.int (nI (aA (nI r) below pen coin debt shr fall j))), some (.int (nI j))] [] (wC Z n toll paid coin debt (aF (nI r) below pen coin debt shr fall j) shr mat rgt pen last below)) 4 ?_ ?_) ⟨rfl, rfl, rfl, rfl, trivial⟩ rfl rfl
  · skip
    refine g_iload_n (i := 3) h dX1_anyFallIn_4 rfl rfl (pc' := 5) rfl ?_
    refine g_iconst (v := nI 4) h dX1_anyFallIn_5 (by decide) (pc' := 6) rfl ?_
    refine g_icmp_geT (tg := 57) h dX1_anyFallIn_6 (by decide) (Int32.le_refl _) ?_
    refine g_iload_n (i := 2) h dX1_anyFallIn_57 rfl rfl (pc' := 58) rfl ?_
    exact g_zret h hr dX1_anyFallIn_58 (nar01 (aA_le 4)) rfl rfl
  · intro j hj ih4
    refine g_iload_n (i := 3) h dX1_anyFallIn_4 rfl rfl (pc' := 5) rfl ?_
    refine g_iconst (v := nI 4) h dX1_anyFallIn_5 (by decide) (pc' := 6) rfl ?_
    refine g_icmp_geF (tg := 57) h dX1_anyFallIn_6 (by decide) (pc' := 9) rfl (nI_ge hj (by omega)) ?_
    refine g_aload_n (i := 0) h dX1_anyFallIn_9 rfl rfl (pc' := 10) rfl ?_
    refine g_iload_n (i := 3) h dX1_anyFallIn_10 rfl rfl (pc' := 11) rfl ?_
    refine g_callV1 (q0 := 2) h dX1_anyFallIn_11 cf_X1_55 (M_X1_isFallen (i := j) (by omega)) rfl rfl rfl rfl (by decide) rfl (Nat.le_of_ble_eq_true rfl) (pc' := 14) rfl ?_
    refine g_ifb_ne (tg := 51) h dX1_anyFallIn_14 (by decide) (pc' := 17) rfl (fun c1 => ?_) (fun c1 => ?_)
    · skip
      refine g_iinc3 (v := nI (j + 1)) h dX1_anyFallIn_51 rfl (inc1 j) (by decide) (pc' := 54) rfl ?_
      refine g_goto (pc' := 4) h dX1_anyFallIn_54 (by decide) ?_
      first | have hq : aC below pen coin debt shr (aF (nI r) below pen coin debt shr fall j) j := ⟨c1, c2⟩ | have hq : ¬ aC below pen coin debt shr (aF (nI r) below pen coin debt shr fall j) j := (fun q => by first | exact q.1 c1 | exact q.2 c2)
      exact GG.castW ih4 ⟨rfl, rfl, (by simp only [List.head?_cons, List.tail_cons, aA]; first | rw [if_pos hq] | rw [if_neg hq]), rfl, trivial⟩ rfl (by simp only [aF]; first | rw [if_pos hq] | rw [if_neg hq])
    · skip
      refine g_aload_n (i := 0) h dX1_anyFallIn_17 rfl rfl (pc' := 18) rfl ?_
      refine g_iload_n (i := 3) h dX1_anyFallIn_18 rfl rfl (pc' := 19) rfl ?_
      refine g_callV1 (q0 := 2) h dX1_anyFallIn_19 cf_X1_58 (M_X1_grossAbove (i := j) (by omega)) rfl rfl rfl rfl (by decide) rfl (Nat.le_of_ble_eq_true rfl) (pc' := 22) rfl ?_
      refine g_aload_n (i := 0) h dX1_anyFallIn_22 rfl rfl (pc' := 23) rfl ?_
      refine gf_X1_32 h dX1_anyFallIn_23 (pc' := 26) rfl ?_
      refine g_aload_n (i := 0) h dX1_anyFallIn_26 rfl rfl (pc' := 27) rfl ?_
      refine gf_X1_36 h dX1_anyFallIn_27 (pc' := 30) rfl ?_
      refine g_iload_n (i := 3) h dX1_anyFallIn_30 rfl rfl (pc' := 31) rfl ?_
      refine g_callV1 (q0 := 1) h dX1_anyFallIn_31 cf_X1_62 (M_X0_allOwedBy (i := j) (by omega)) rfl rfl rfl rfl (by decide) rfl (Nat.le_of_ble_eq_true rfl) (pc' := 34) rfl ?_
      refine g_i2l h dX1_anyFallIn_34 (pc' := 35) rfl ?_
      refine g_lmul h dX1_anyFallIn_35 (pc' := 36) rfl ?_
      refine g_lcmp_ge (pc1 := 37) (tg := 51) h dX1_anyFallIn_36 rfl dX1_anyFallIn_37 (by decide) (pc' := 40) rfl (fun c2 => ?_) (fun c2 => ?_)
      · skip
        refine g_iinc3 (v := nI (j + 1)) h dX1_anyFallIn_51 rfl (inc1 j) (by decide) (pc' := 54) rfl ?_
        refine g_goto (pc' := 4) h dX1_anyFallIn_54 (by decide) ?_
        first | have hq : aC below pen coin debt shr (aF (nI r) below pen coin debt shr fall j) j := ⟨c1, c2⟩ | have hq : ¬ aC below pen coin debt shr (aF (nI r) below pen coin debt shr fall j) j := (fun q => by first | exact q.1 c1 | exact q.2 c2)
        exact GG.castW ih4 ⟨rfl, rfl, (by simp only [List.head?_cons, List.tail_cons, aA]; first | rw [if_pos hq] | rw [if_neg hq]), rfl, trivial⟩ rfl (by simp only [aF]; first | rw [if_pos hq] | rw [if_neg hq])
      · skip
        refine g_aload_n (i := 0) h dX1_anyFallIn_40 rfl rfl (pc' := 41) rfl ?_
        refine gf_X1_9 h dX1_anyFallIn_41 (pc' := 44) rfl ?_
        refine g_iload_n (i := 3) h dX1_anyFallIn_44 rfl rfl (pc' := 45) rfl ?_
        refine g_iload_n (i := 1) h dX1_anyFallIn_45 rfl rfl (pc' := 46) rfl ?_
        refine g_callN0 h dX1_anyFallIn_46 cf_X1_40 (M_X3_put_6 (k := j) (x := nI r) (by omega)) rfl (by decide) rfl (Nat.le_of_ble_eq_true rfl) (pc' := 49) rfl ?_
        refine g_iconst (v := nI 1) h dX1_anyFallIn_49 (by decide) (pc' := 50) rfl ?_
        refine g_istore2 h dX1_anyFallIn_50 rfl (by decide) (pc' := 51) rfl ?_
        refine g_iinc3 (v := nI (j + 1)) h dX1_anyFallIn_51 rfl (inc1 j) (by decide) (pc' := 54) rfl ?_
        refine g_goto (pc' := 4) h dX1_anyFallIn_54 (by decide) ?_
        first | have hq : aC below pen coin debt shr (aF (nI r) below pen coin debt shr fall j) j := ⟨c1, c2⟩ | have hq : ¬ aC below pen coin debt shr (aF (nI r) below pen coin debt shr fall j) j := (fun q => by first | exact q.1 c1 | exact q.2 c2)
        exact GG.castW ih4 ⟨rfl, rfl, (by simp only [List.head?_cons, List.tail_cons, aA]; first | rw [if_pos hq] | rw [if_neg hq]), rfl, trivial⟩ rfl (by simp only [aF]; first | rw [if_pos hq] | rw [if_neg hq])
set_option maxRecDepth 20000 in
set_option maxHeartbeats 4000000 in
theorem M_X1_entry {Z : ZT} {n : Int32} {toll : Int32} {paid : Int32} {coin : Nat → Int32} {debt : Nat → Int32} {fall : Nat → Int32} {shr : Nat → Int64} {mat : Nat → Int64} {rgt : Nat → Int64} {pen : Int32} {last : Int32} {below : Int64} {r : Nat} {c : Nat} {p : Int32}  (g0 : r < 4) (g1 : c < 4) : MM Z yX1_entry cX1_entry 4 (some .long) 1 [.ref (Z.2.2 2), .int (nI r), .int (nI c), .int p] (wC Z n toll paid coin debt fall shr mat rgt pen last below) (some (.long (en mat rgt p r c))) (wC Z n toll paid coin debt fall shr mat rgt pen last below) := by
  refine MM.intro (by decide) [some (.ref (Z.2.2 2)), some (.int (nI r)), some (.int (nI c)), some (.int p)] rfl (Nat.le_of_ble_eq_true rfl) (fun X (h : OK Z X cX1_entry RX1 4 (rmd 1)) hr => ?_)
  refine g_iload_n (i := 2) h dX1_entry_0 rfl rfl (pc' := 1) rfl ?_
  refine g_iload_n (i := 3) h dX1_entry_1 rfl rfl (pc' := 2) rfl ?_
  refine g_icmp_ne (tg := 16) h dX1_entry_2 (by decide) (pc' := 5) rfl (fun c1 => ?_) (fun c1 => ?_)
  · skip
    refine g_aload_n (i := 0) h dX1_entry_16 rfl rfl (pc' := 17) rfl ?_
    refine gf_X1_19 h dX1_entry_17 (pc' := 20) rfl ?_
    refine g_iload_n (i := 1) h dX1_entry_20 rfl rfl (pc' := 21) rfl ?_
    refine g_iconst (v := nI 4) h dX1_entry_21 (by decide) (pc' := 22) rfl ?_
    refine g_imulN h dX1_entry_22 (pc' := 23) rfl ?_
    refine g_iload_n (i := 2) h dX1_entry_23 rfl rfl (pc' := 24) rfl ?_
    refine g_iaddN h dX1_entry_24 (pc' := 25) rfl ?_
    refine g_callN1 h dX1_entry_25 cf_X1_99 (M_X3_longAt_8 (k := (r * 4) + c) (by omega)) rfl (by decide) rfl (Nat.le_of_ble_eq_true rfl) (pc' := 28) rfl ?_
    exact g_lret h hr dX1_entry_28 (by simp only [en, if_neg c1]) rfl
  · skip
    refine g_aload_n (i := 0) h dX1_entry_5 rfl rfl (pc' := 6) rfl ?_
    refine gf_X1_22 h dX1_entry_6 (pc' := 9) rfl ?_
    refine g_iload_n (i := 1) h dX1_entry_9 rfl rfl (pc' := 10) rfl ?_
    refine g_callN1 h dX1_entry_10 cf_X1_99 (M_X3_longAt_9 (k := r) (by omega)) rfl (by decide) rfl (Nat.le_of_ble_eq_true rfl) (pc' := 13) rfl ?_
    refine g_goto (pc' := 28) h dX1_entry_13 (by decide) ?_
    exact g_lret h hr dX1_entry_28 (by simp only [en, if_pos c1]) rfl
set_option maxRecDepth 20000 in
set_option maxHeartbeats 4000000 in
theorem M_X1_minor {Z : ZT} {n : Int32} {toll : Int32} {paid : Int32} {coin : Nat → Int32} {debt : Nat → Int32} {fall : Nat → Int32} {shr : Nat → Int64} {mat : Nat → Int64} {rgt : Nat → Int64} {pen : Int32} {last : Int32} {below : Int64} {r : Nat} {a : Nat} {b : Nat} {p : Int32}  (g0 : r < 3) (g1 : a < 4) (g2 : b < 4) : MM Z yX1_minor cX1_minor 5 (some .long) 2 [.ref (Z.2.2 2), .int (nI r), .int (nI a), .int (nI b), .int p] (wC Z n toll paid coin debt fall shr mat rgt pen last below) (some (.long (mi mat rgt p r a b))) (wC Z n toll paid coin debt fall shr mat rgt pen last below) := by
  refine MM.intro (by decide) [some (.ref (Z.2.2 2)), some (.int (nI r)), some (.int (nI a)), some (.int (nI b)), some (.int p)] rfl (Nat.le_of_ble_eq_true rfl) (fun X (h : OK Z X cX1_minor RX1 5 (rmd 2)) hr => ?_)
  refine g_aload_n (i := 0) h dX1_minor_0 rfl rfl (pc' := 1) rfl ?_
  refine g_iload_n (i := 1) h dX1_minor_1 rfl rfl (pc' := 2) rfl ?_
  refine g_iload_n (i := 2) h dX1_minor_2 rfl rfl (pc' := 3) rfl ?_
  refine g_iload h dX1_minor_3 rfl (pc' := 5) rfl ?_
  refine g_callV1 (q0 := 2) h dX1_minor_5 cf_X1_95 (M_X1_entry (r := r) (c := a) (p := p) (by omega) (by omega)) rfl rfl rfl rfl (by decide) rfl (Nat.le_of_ble_eq_true rfl) (pc' := 8) rfl ?_
  refine g_aload_n (i := 0) h dX1_minor_8 rfl rfl (pc' := 9) rfl ?_
  refine g_iload_n (i := 1) h dX1_minor_9 rfl rfl (pc' := 10) rfl ?_
  refine g_iconst (v := nI 1) h dX1_minor_10 (by decide) (pc' := 11) rfl ?_
  refine g_iaddN h dX1_minor_11 (pc' := 12) rfl ?_
  refine g_iload_n (i := 3) h dX1_minor_12 rfl rfl (pc' := 13) rfl ?_
  refine g_iload h dX1_minor_13 rfl (pc' := 15) rfl ?_
  refine g_callV1 (q0 := 2) h dX1_minor_15 cf_X1_95 (M_X1_entry (r := r + 1) (c := b) (p := p) (by omega) (by omega)) rfl rfl rfl rfl (by decide) rfl (Nat.le_of_ble_eq_true rfl) (pc' := 18) rfl ?_
  refine g_lmul h dX1_minor_18 (pc' := 19) rfl ?_
  refine g_aload_n (i := 0) h dX1_minor_19 rfl rfl (pc' := 20) rfl ?_
  refine g_iload_n (i := 1) h dX1_minor_20 rfl rfl (pc' := 21) rfl ?_
  refine g_iload_n (i := 3) h dX1_minor_21 rfl rfl (pc' := 22) rfl ?_
  refine g_iload h dX1_minor_22 rfl (pc' := 24) rfl ?_
  refine g_callV1 (q0 := 2) h dX1_minor_24 cf_X1_95 (M_X1_entry (r := r) (c := b) (p := p) (by omega) (by omega)) rfl rfl rfl rfl (by decide) rfl (Nat.le_of_ble_eq_true rfl) (pc' := 27) rfl ?_
  refine g_aload_n (i := 0) h dX1_minor_27 rfl rfl (pc' := 28) rfl ?_
  refine g_iload_n (i := 1) h dX1_minor_28 rfl rfl (pc' := 29) rfl ?_
  refine g_iconst (v := nI 1) h dX1_minor_29 (by decide) (pc' := 30) rfl ?_
  refine g_iaddN h dX1_minor_30 (pc' := 31) rfl ?_
  refine g_iload_n (i := 2) h dX1_minor_31 rfl rfl (pc' := 32) rfl ?_
  refine g_iload h dX1_minor_32 rfl (pc' := 34) rfl ?_
  refine g_callV1 (q0 := 2) h dX1_minor_34 cf_X1_95 (M_X1_entry (r := r + 1) (c := a) (p := p) (by omega) (by omega)) rfl rfl rfl rfl (by decide) rfl (Nat.le_of_ble_eq_true rfl) (pc' := 37) rfl ?_
  refine g_lmul h dX1_minor_37 (pc' := 38) rfl ?_
  refine g_lsub h dX1_minor_38 (pc' := 39) rfl ?_
  exact g_lret h hr dX1_minor_39 rfl rfl
set_option maxRecDepth 20000 in
set_option maxHeartbeats 4000000 in
theorem M_X1_determinant {Z : ZT} {n : Int32} {toll : Int32} {paid : Int32} {coin : Nat → Int32} {debt : Nat → Int32} {fall : Nat → Int32} {shr : Nat → Int64} {mat : Nat → Int64} {rgt : Nat → Int64} {pen : Int32} {last : Int32} {below : Int64} {p : Int32}   : MM Z yX1_determinant cX1_determinant 2 (some .long) 3 [.ref (Z.2.2 2), .int p] (wC Z n toll paid coin debt fall shr mat rgt pen last below) (some (.long (dt mat rgt p))) (wC Z n toll paid coin debt fall shr mat rgt pen last below) := by
  refine MM.intro (by decide) [some (.ref (Z.2.2 2)), some (.int p)] rfl (Nat.le_of_ble_eq_true rfl) (fun X (h : OK Z X cX1_determinant RX1 2 (rmd 3)) hr => ?_)
  refine g_aload_n (i := 0) h dX1_determinant_0 rfl rfl (pc' := 1) rfl ?_
  refine g_iconst (v := nI 0) h dX1_determinant_1 (by decide) (pc' := 2) rfl ?_
  refine g_iconst (v := nI 0) h dX1_determinant_2 (by decide) (pc' := 3) rfl ?_
  refine g_iconst (v := nI 1) h dX1_determinant_3 (by decide) (pc' := 4) rfl ?_
  refine g_iload_n (i := 1) h dX1_determinant_4 rfl rfl (pc' := 5) rfl ?_
  refine g_callV1 (q0 := 2) h dX1_determinant_5 cf_X1_91 (M_X1_minor (r := 0) (a := 0) (b := 1) (p := p) (by omega) (by omega) (by omega)) rfl rfl rfl rfl (by decide) rfl (Nat.le_of_ble_eq_true rfl) (pc' := 8) rfl ?_
  refine g_aload_n (i := 0) h dX1_determinant_8 rfl rfl (pc' := 9) rfl ?_
  refine g_iconst (v := nI 2) h dX1_determinant_9 (by decide) (pc' := 10) rfl ?_
  refine g_iconst (v := nI 2) h dX1_determinant_10 (by decide) (pc' := 11) rfl ?_
  refine g_iconst (v := nI 3) h dX1_determinant_11 (by decide) (pc' := 12) rfl ?_
  refine g_iload_n (i := 1) h dX1_determinant_12 rfl rfl (pc' := 13) rfl ?_
  refine g_callV1 (q0 := 2) h dX1_determinant_13 cf_X1_91 (M_X1_minor (r := 2) (a := 2) (b := 3) (p := p) (by omega) (by omega) (by omega)) rfl rfl rfl rfl (by decide) rfl (Nat.le_of_ble_eq_true rfl) (pc' := 16) rfl ?_
  refine g_lmul h dX1_determinant_16 (pc' := 17) rfl ?_
  refine g_aload_n (i := 0) h dX1_determinant_17 rfl rfl (pc' := 18) rfl ?_
  refine g_iconst (v := nI 0) h dX1_determinant_18 (by decide) (pc' := 19) rfl ?_
  refine g_iconst (v := nI 0) h dX1_determinant_19 (by decide) (pc' := 20) rfl ?_
  refine g_iconst (v := nI 2) h dX1_determinant_20 (by decide) (pc' := 21) rfl ?_
  refine g_iload_n (i := 1) h dX1_determinant_21 rfl rfl (pc' := 22) rfl ?_
  refine g_callV1 (q0 := 2) h dX1_determinant_22 cf_X1_91 (M_X1_minor (r := 0) (a := 0) (b := 2) (p := p) (by omega) (by omega) (by omega)) rfl rfl rfl rfl (by decide) rfl (Nat.le_of_ble_eq_true rfl) (pc' := 25) rfl ?_
  refine g_aload_n (i := 0) h dX1_determinant_25 rfl rfl (pc' := 26) rfl ?_
  refine g_iconst (v := nI 2) h dX1_determinant_26 (by decide) (pc' := 27) rfl ?_
  refine g_iconst (v := nI 1) h dX1_determinant_27 (by decide) (pc' := 28) rfl ?_
  refine g_iconst (v := nI 3) h dX1_determinant_28 (by decide) (pc' := 29) rfl ?_
  refine g_iload_n (i := 1) h dX1_determinant_29 rfl rfl (pc' := 30) rfl ?_
  refine g_callV1 (q0 := 2) h dX1_determinant_30 cf_X1_91 (M_X1_minor (r := 2) (a := 1) (b := 3) (p := p) (by omega) (by omega) (by omega)) rfl rfl rfl rfl (by decide) rfl (Nat.le_of_ble_eq_true rfl) (pc' := 33) rfl ?_
  refine g_lmul h dX1_determinant_33 (pc' := 34) rfl ?_
  refine g_lsub h dX1_determinant_34 (pc' := 35) rfl ?_
  refine g_aload_n (i := 0) h dX1_determinant_35 rfl rfl (pc' := 36) rfl ?_
  refine g_iconst (v := nI 0) h dX1_determinant_36 (by decide) (pc' := 37) rfl ?_
  refine g_iconst (v := nI 0) h dX1_determinant_37 (by decide) (pc' := 38) rfl ?_
  refine g_iconst (v := nI 3) h dX1_determinant_38 (by decide) (pc' := 39) rfl ?_
  refine g_iload_n (i := 1) h dX1_determinant_39 rfl rfl (pc' := 40) rfl ?_
  refine g_callV1 (q0 := 2) h dX1_determinant_40 cf_X1_91 (M_X1_minor (r := 0) (a := 0) (b := 3) (p := p) (by omega) (by omega) (by omega)) rfl rfl rfl rfl (by decide) rfl (Nat.le_of_ble_eq_true rfl) (pc' := 43) rfl ?_
  refine g_aload_n (i := 0) h dX1_determinant_43 rfl rfl (pc' := 44) rfl ?_
  refine g_iconst (v := nI 2) h dX1_determinant_44 (by decide) (pc' := 45) rfl ?_
  refine g_iconst (v := nI 1) h dX1_determinant_45 (by decide) (pc' := 46) rfl ?_
  refine g_iconst (v := nI 2) h dX1_determinant_46 (by decide) (pc' := 47) rfl ?_
  refine g_iload_n (i := 1) h dX1_determinant_47 rfl rfl (pc' := 48) rfl ?_
  refine g_callV1 (q0 := 2) h dX1_determinant_48 cf_X1_91 (M_X1_minor (r := 2) (a := 1) (b := 2) (p := p) (by omega) (by omega) (by omega)) rfl rfl rfl rfl (by decide) rfl (Nat.le_of_ble_eq_true rfl) (pc' := 51) rfl ?_
  refine g_lmul h dX1_determinant_51 (pc' := 52) rfl ?_
  refine g_ladd h dX1_determinant_52 (pc' := 53) rfl ?_
  refine g_aload_n (i := 0) h dX1_determinant_53 rfl rfl (pc' := 54) rfl ?_
  refine g_iconst (v := nI 0) h dX1_determinant_54 (by decide) (pc' := 55) rfl ?_
  refine g_iconst (v := nI 1) h dX1_determinant_55 (by decide) (pc' := 56) rfl ?_
  refine g_iconst (v := nI 2) h dX1_determinant_56 (by decide) (pc' := 57) rfl ?_
  refine g_iload_n (i := 1) h dX1_determinant_57 rfl rfl (pc' := 58) rfl ?_
  refine g_callV1 (q0 := 2) h dX1_determinant_58 cf_X1_91 (M_X1_minor (r := 0) (a := 1) (b := 2) (p := p) (by omega) (by omega) (by omega)) rfl rfl rfl rfl (by decide) rfl (Nat.le_of_ble_eq_true rfl) (pc' := 61) rfl ?_
  refine g_aload_n (i := 0) h dX1_determinant_61 rfl rfl (pc' := 62) rfl ?_
  refine g_iconst (v := nI 2) h dX1_determinant_62 (by decide) (pc' := 63) rfl ?_
  refine g_iconst (v := nI 0) h dX1_determinant_63 (by decide) (pc' := 64) rfl ?_
  refine g_iconst (v := nI 3) h dX1_determinant_64 (by decide) (pc' := 65) rfl ?_
  refine g_iload_n (i := 1) h dX1_determinant_65 rfl rfl (pc' := 66) rfl ?_
  refine g_callV1 (q0 := 2) h dX1_determinant_66 cf_X1_91 (M_X1_minor (r := 2) (a := 0) (b := 3) (p := p) (by omega) (by omega) (by omega)) rfl rfl rfl rfl (by decide) rfl (Nat.le_of_ble_eq_true rfl) (pc' := 69) rfl ?_
  refine g_lmul h dX1_determinant_69 (pc' := 70) rfl ?_
  refine g_ladd h dX1_determinant_70 (pc' := 71) rfl ?_
  refine g_aload_n (i := 0) h dX1_determinant_71 rfl rfl (pc' := 72) rfl ?_
  refine g_iconst (v := nI 0) h dX1_determinant_72 (by decide) (pc' := 73) rfl ?_
  refine g_iconst (v := nI 1) h dX1_determinant_73 (by decide) (pc' := 74) rfl ?_
  refine g_iconst (v := nI 3) h dX1_determinant_74 (by decide) (pc' := 75) rfl ?_
  refine g_iload_n (i := 1) h dX1_determinant_75 rfl rfl (pc' := 76) rfl ?_
  refine g_callV1 (q0 := 2) h dX1_determinant_76 cf_X1_91 (M_X1_minor (r := 0) (a := 1) (b := 3) (p := p) (by omega) (by omega) (by omega)) rfl rfl rfl rfl (by decide) rfl (Nat.le_of_ble_eq_true rfl) (pc' := 79) rfl ?_
  refine g_aload_n (i := 0) h dX1_determinant_79 rfl rfl (pc' := 80) rfl ?_
  refine g_iconst (v := nI 2) h dX1_determinant_80 (by decide) (pc' := 81) rfl ?_
  refine g_iconst (v := nI 0) h dX1_determinant_81 (by decide) (pc' := 82) rfl ?_
  refine g_iconst (v := nI 2) h dX1_determinant_82 (by decide) (pc' := 83) rfl ?_
  refine g_iload_n (i := 1) h dX1_determinant_83 rfl rfl (pc' := 84) rfl ?_
  refine g_callV1 (q0 := 2) h dX1_determinant_84 cf_X1_91 (M_X1_minor (r := 2) (a := 0) (b := 2) (p := p) (by omega) (by omega) (by omega)) rfl rfl rfl rfl (by decide) rfl (Nat.le_of_ble_eq_true rfl) (pc' := 87) rfl ?_
  refine g_lmul h dX1_determinant_87 (pc' := 88) rfl ?_
  refine g_lsub h dX1_determinant_88 (pc' := 89) rfl ?_
  refine g_aload_n (i := 0) h dX1_determinant_89 rfl rfl (pc' := 90) rfl ?_
  refine g_iconst (v := nI 0) h dX1_determinant_90 (by decide) (pc' := 91) rfl ?_
  refine g_iconst (v := nI 2) h dX1_determinant_91 (by decide) (pc' := 92) rfl ?_
  refine g_iconst (v := nI 3) h dX1_determinant_92 (by decide) (pc' := 93) rfl ?_
  refine g_iload_n (i := 1) h dX1_determinant_93 rfl rfl (pc' := 94) rfl ?_
  refine g_callV1 (q0 := 2) h dX1_determinant_94 cf_X1_91 (M_X1_minor (r := 0) (a := 2) (b := 3) (p := p) (by omega) (by omega) (by omega)) rfl rfl rfl rfl (by decide) rfl (Nat.le_of_ble_eq_true rfl) (pc' := 97) rfl ?_
  refine g_aload_n (i := 0) h dX1_determinant_97 rfl rfl (pc' := 98) rfl ?_
  refine g_iconst (v := nI 2) h dX1_determinant_98 (by decide) (pc' := 99) rfl ?_
  refine g_iconst (v := nI 0) h dX1_determinant_99 (by decide) (pc' := 100) rfl ?_
  refine g_iconst (v := nI 1) h dX1_determinant_100 (by decide) (pc' := 101) rfl ?_
  refine g_iload_n (i := 1) h dX1_determinant_101 rfl rfl (pc' := 102) rfl ?_
  refine g_callV1 (q0 := 2) h dX1_determinant_102 cf_X1_91 (M_X1_minor (r := 2) (a := 0) (b := 1) (p := p) (by omega) (by omega) (by omega)) rfl rfl rfl rfl (by decide) rfl (Nat.le_of_ble_eq_true rfl) (pc' := 105) rfl ?_
  refine g_lmul h dX1_determinant_105 (pc' := 106) rfl ?_
  refine g_ladd h dX1_determinant_106 (pc' := 107) rfl ?_
  exact g_lret h hr dX1_determinant_107 rfl rfl
set_option maxRecDepth 20000 in
set_option maxHeartbeats 4000000 in
theorem M_X1_writeEquation {Z : ZT} {n : Int32} {toll : Int32} {paid : Int32} {coin : Nat → Int32} {debt : Nat → Int32} {fall : Nat → Int32} {shr : Nat → Int64} {mat : Nat → Int64} {rgt : Nat → Int64} {pen : Int32} {last : Int32} {below : Int64} {i : Nat}  (g0 : i < 4) : MM Z yX1_writeEquation cX1_writeEquation 5 none 3 [.ref (Z.2.2 2), .int (nI i)] (wC Z n toll paid coin debt fall shr mat rgt pen last below) none (wC Z n toll paid coin debt fall shr (wMd toll debt fall mat i) (wRt toll pen coin fall rgt i) pen last below) := by
  refine MM.intro (by decide) [some (.ref (Z.2.2 2)), some (.int (nI i)), none, none, none] rfl (Nat.le_of_ble_eq_true rfl) (fun X (h : OK Z X cX1_writeEquation RX1 5 (rmd 3)) hr => ?_)
  refine g_aload_n (i := 0) h dX1_writeEquation_0 rfl rfl (pc' := 1) rfl ?_
  refine g_iload_n (i := 1) h dX1_writeEquation_1 rfl rfl (pc' := 2) rfl ?_
  refine g_callV1 (q0 := 2) h dX1_writeEquation_2 cf_X1_55 (M_X1_isFallen (i := i) (by omega)) rfl rfl rfl rfl (by decide) rfl (Nat.le_of_ble_eq_true rfl) (pc' := 5) rfl ?_
  refine g_istore2 h dX1_writeEquation_5 rfl (by decide) (pc' := 6) rfl ?_
  refine g_bipush (v := nI 10) h dX1_writeEquation_6 (by decide) (pc' := 8) rfl ?_
  refine g_aload_n (i := 0) h dX1_writeEquation_8 rfl rfl (pc' := 9) rfl ?_
  refine gf_X1_36 h dX1_writeEquation_9 (pc' := 12) rfl ?_
  refine gf_X1_81 h dX1_writeEquation_12 (pc' := 15) rfl ?_
  refine g_isub h dX1_writeEquation_15 (pc' := 16) rfl ?_
  refine g_istore3 h dX1_writeEquation_16 rfl (by decide) (pc' := 17) rfl ?_
  refine g_iconst (v := nI 0) h dX1_writeEquation_17 (by decide) (pc' := 18) rfl ?_
  refine g_istore4 h dX1_writeEquation_18 rfl (by decide) (pc' := 20) rfl ?_
  refine GG.castW (lp (P := fun j => GG Z X 20 [some (.ref (Z.2.2 2)), some (.int (nI i)), some (.int (bI (fl fall i))), some (.int (nI 10 - toll)), some (.int (nI j))] [] (wC Z n toll paid coin debt fall shr (wM toll debt fall mat i j) rgt pen last below)) 4 ?_ ?_) ⟨rfl, rfl, rfl, rfl, rfl, trivial⟩ rfl rfl
  · skip
    refine g_iload h dX1_writeEquation_20 rfl (pc' := 22) rfl ?_
    refine g_iconst (v := nI 4) h dX1_writeEquation_22 (by decide) (pc' := 23) rfl ?_
    refine g_icmp_geT (tg := 67) h dX1_writeEquation_23 (by decide) (Int32.le_refl _) ?_
    refine g_iload_n (i := 1) h dX1_writeEquation_67 rfl rfl (pc' := 68) rfl ?_
    refine g_iconst (v := nI 4) h dX1_writeEquation_68 (by decide) (pc' := 69) rfl ?_
    refine g_imulN h dX1_writeEquation_69 (pc' := 70) rfl ?_
    refine g_iload_n (i := 1) h dX1_writeEquation_70 rfl rfl (pc' := 71) rfl ?_
    refine g_iaddN h dX1_writeEquation_71 (pc' := 72) rfl ?_
    refine g_istore4 h dX1_writeEquation_72 rfl (by decide) (pc' := 74) rfl ?_
    refine g_aload_n (i := 0) h dX1_writeEquation_74 rfl rfl (pc' := 75) rfl ?_
    refine gf_X1_19 h dX1_writeEquation_75 (pc' := 78) rfl ?_
    refine g_iload h dX1_writeEquation_78 rfl (pc' := 80) rfl ?_
    refine g_iload_n (i := 2) h dX1_writeEquation_80 rfl rfl (pc' := 81) rfl ?_
    refine g_ifb_eq (tg := 99) h dX1_writeEquation_81 (by decide) (pc' := 84) rfl (fun c1 => ?_) (fun c1 => ?_)
    · skip
      refine g_lconst (v := 1) h dX1_writeEquation_99 (by decide) (pc' := 100) rfl ?_
      refine g_callN0 h dX1_writeEquation_100 cf_X1_44 (M_X3_putLong_8 (k := (i * 4) + i) (x := 1) (by omega)) rfl (by decide) rfl (Nat.le_of_ble_eq_true rfl) (pc' := 103) rfl ?_
      refine g_aload_n (i := 0) h dX1_writeEquation_103 rfl rfl (pc' := 104) rfl ?_
      refine gf_X1_22 h dX1_writeEquation_104 (pc' := 107) rfl ?_
      refine g_iload_n (i := 1) h dX1_writeEquation_107 rfl rfl (pc' := 108) rfl ?_
      refine g_iload_n (i := 2) h dX1_writeEquation_108 rfl rfl (pc' := 109) rfl ?_
      refine g_if_eqT (tg := 123) h dX1_writeEquation_109 (by decide) (bI_n c1) ?_
      refine g_lconst (v := 1) h dX1_writeEquation_123 (by decide) (pc' := 124) rfl ?_
      refine g_callN0 h dX1_writeEquation_124 cf_X1_44 (M_X3_putLong_9 (k := i) (x := 1) (by omega)) rfl (by decide) rfl (Nat.le_of_ble_eq_true rfl) (pc' := 127) rfl ?_
      exact g_vret h hr dX1_writeEquation_127 rfl (by simp only [wMd, wRt, if_neg c1])
    · skip
      refine g_bipush (v := nI 10) h dX1_writeEquation_84 (by decide) (pc' := 86) rfl ?_
      refine g_aload_n (i := 0) h dX1_writeEquation_86 rfl rfl (pc' := 87) rfl ?_
      refine gf_X1_36 h dX1_writeEquation_87 (pc' := 90) rfl ?_
      refine g_iload_n (i := 1) h dX1_writeEquation_90 rfl rfl (pc' := 91) rfl ?_
      refine g_callV1 (q0 := 1) h dX1_writeEquation_91 cf_X1_62 (M_X0_allOwedBy (i := i) (by omega)) rfl rfl rfl rfl (by decide) rfl (Nat.le_of_ble_eq_true rfl) (pc' := 94) rfl ?_
      refine g_imul h dX1_writeEquation_94 (pc' := 95) rfl ?_
      refine g_i2l h dX1_writeEquation_95 (pc' := 96) rfl ?_
      refine g_goto (pc' := 100) h dX1_writeEquation_96 (by decide) ?_
      refine g_callN0 h dX1_writeEquation_100 cf_X1_44 (M_X3_putLong_8 (k := (i * 4) + i) (x := ((nI 10) * (oB debt i)).toInt64) (by omega)) rfl (by decide) rfl (Nat.le_of_ble_eq_true rfl) (pc' := 103) rfl ?_
      refine g_aload_n (i := 0) h dX1_writeEquation_103 rfl rfl (pc' := 104) rfl ?_
      refine gf_X1_22 h dX1_writeEquation_104 (pc' := 107) rfl ?_
      refine g_iload_n (i := 1) h dX1_writeEquation_107 rfl rfl (pc' := 108) rfl ?_
      refine g_iload_n (i := 2) h dX1_writeEquation_108 rfl rfl (pc' := 109) rfl ?_
      refine g_if_eqF (tg := 123) h dX1_writeEquation_109 (by decide) (pc' := 112) rfl (fun q => (bI_0.mp q) c1) ?_
      refine g_iload_n (i := 3) h dX1_writeEquation_112 rfl rfl (pc' := 113) rfl ?_
      refine g_aload_n (i := 0) h dX1_writeEquation_113 rfl rfl (pc' := 114) rfl ?_
      refine g_iload_n (i := 1) h dX1_writeEquation_114 rfl rfl (pc' := 115) rfl ?_
      refine g_callV1 (q0 := 2) h dX1_writeEquation_115 cf_X1_88 (M_X1_usableCoins (i := i) (by omega)) rfl rfl rfl rfl (by decide) rfl (Nat.le_of_ble_eq_true rfl) (pc' := 118) rfl ?_
      refine g_imul h dX1_writeEquation_118 (pc' := 119) rfl ?_
      refine g_i2l h dX1_writeEquation_119 (pc' := 120) rfl ?_
      refine g_goto (pc' := 124) h dX1_writeEquation_120 (by decide) ?_
      refine g_callN0 h dX1_writeEquation_124 cf_X1_44 (M_X3_putLong_9 (k := i) (x := ((nI 10 - toll) * (uC pen coin i)).toInt64) (by omega)) rfl (by decide) rfl (Nat.le_of_ble_eq_true rfl) (pc' := 127) rfl ?_
      exact g_vret h hr dX1_writeEquation_127 rfl (by simp only [wMd, wRt, if_pos c1])
  · intro j hj ih20
    refine g_iload h dX1_writeEquation_20 rfl (pc' := 22) rfl ?_
    refine g_iconst (v := nI 4) h dX1_writeEquation_22 (by decide) (pc' := 23) rfl ?_
    refine g_icmp_geF (tg := 67) h dX1_writeEquation_23 (by decide) (pc' := 26) rfl (nI_ge hj (by omega)) ?_
    refine g_aload_n (i := 0) h dX1_writeEquation_26 rfl rfl (pc' := 27) rfl ?_
    refine gf_X1_19 h dX1_writeEquation_27 (pc' := 30) rfl ?_
    refine g_iload_n (i := 1) h dX1_writeEquation_30 rfl rfl (pc' := 31) rfl ?_
    refine g_iconst (v := nI 4) h dX1_writeEquation_31 (by decide) (pc' := 32) rfl ?_
    refine g_imulN h dX1_writeEquation_32 (pc' := 33) rfl ?_
    refine g_iload h dX1_writeEquation_33 rfl (pc' := 35) rfl ?_
    refine g_iaddN h dX1_writeEquation_35 (pc' := 36) rfl ?_
    refine g_iload_n (i := 2) h dX1_writeEquation_36 rfl rfl (pc' := 37) rfl ?_
    refine g_ifb_eq (tg := 57) h dX1_writeEquation_37 (by decide) (pc' := 40) rfl (fun c2 => ?_) (fun c2 => ?_)
    · skip
      refine g_lconst (v := 0) h dX1_writeEquation_57 (by decide) (pc' := 58) rfl ?_
      refine g_callN0 h dX1_writeEquation_58 cf_X1_44 (M_X3_putLong_8 (k := (i * 4) + j) (x := 0) (by omega)) rfl (by decide) rfl (Nat.le_of_ble_eq_true rfl) (pc' := 61) rfl ?_
      refine g_iinc4 (v := nI (j + 1)) h dX1_writeEquation_61 rfl (inc1 j) (by decide) (pc' := 64) rfl ?_
      refine g_goto (pc' := 20) h dX1_writeEquation_64 (by decide) ?_
      exact GG.castW ih20 ⟨rfl, rfl, rfl, rfl, rfl, trivial⟩ rfl (by simp only [wM, if_neg c2])
    · skip
      refine g_iload_n (i := 3) h dX1_writeEquation_40 rfl rfl (pc' := 41) rfl ?_
      refine g_ineg (v := -(nI 10 - toll)) h dX1_writeEquation_41 rfl (pc' := 42) rfl ?_
      refine g_aload_n (i := 0) h dX1_writeEquation_42 rfl rfl (pc' := 43) rfl ?_
      refine gf_X1_36 h dX1_writeEquation_43 (pc' := 46) rfl ?_
      refine g_iload h dX1_writeEquation_46 rfl (pc' := 48) rfl ?_
      refine g_iload_n (i := 1) h dX1_writeEquation_48 rfl rfl (pc' := 49) rfl ?_
      refine g_callV1 (q0 := 1) h dX1_writeEquation_49 cf_X1_84 (M_X0_owed (i := j) (c := i) (by omega) (by omega)) rfl rfl rfl rfl (by decide) rfl (Nat.le_of_ble_eq_true rfl) (pc' := 52) rfl ?_
      refine g_imul h dX1_writeEquation_52 (pc' := 53) rfl ?_
      refine g_i2l h dX1_writeEquation_53 (pc' := 54) rfl ?_
      refine g_goto (pc' := 58) h dX1_writeEquation_54 (by decide) ?_
      refine g_callN0 h dX1_writeEquation_58 cf_X1_44 (M_X3_putLong_8 (k := (i * 4) + j) (x := ((-(nI 10 - toll)) * (debt (j * 5 + i))).toInt64) (by omega)) rfl (by decide) rfl (Nat.le_of_ble_eq_true rfl) (pc' := 61) rfl ?_
      refine g_iinc4 (v := nI (j + 1)) h dX1_writeEquation_61 rfl (inc1 j) (by decide) (pc' := 64) rfl ?_
      refine g_goto (pc' := 20) h dX1_writeEquation_64 (by decide) ?_
      exact GG.castW ih20 ⟨rfl, rfl, rfl, rfl, rfl, trivial⟩ rfl (by simp only [wM, if_pos c2])
set_option maxRecDepth 20000 in
set_option maxHeartbeats 4000000 in
theorem M_X1_solveShares {Z : ZT} {n : Int32} {toll : Int32} {paid : Int32} {coin : Nat → Int32} {debt : Nat → Int32} {fall : Nat → Int32} {shr : Nat → Int64} {mat : Nat → Int64} {rgt : Nat → Int64} {pen : Int32} {last : Int32} {below : Int64}    : MM Z yX1_solveShares cX1_solveShares 2 none 4 [.ref (Z.2.2 2)] (wC Z n toll paid coin debt fall shr mat rgt pen last below) none (wC Z n toll paid coin debt fall (sS (wEs toll pen coin debt fall (mat, rgt) 4).1 (wEs toll pen coin debt fall (mat, rgt) 4).2 shr 4) ((wEs toll pen coin debt fall (mat, rgt) 4).1) ((wEs toll pen coin debt fall (mat, rgt) 4).2) pen last (dt (wEs toll pen coin debt fall (mat, rgt) 4).1 (wEs toll pen coin debt fall (mat, rgt) 4).2 (-1))) := by
  refine MM.intro (by decide) [some (.ref (Z.2.2 2)), none] rfl (Nat.le_of_ble_eq_true rfl) (fun X (h : OK Z X cX1_solveShares RX1 2 (rmd 4)) hr => ?_)
  refine g_iconst (v := nI 0) h dX1_solveShares_0 (by decide) (pc' := 1) rfl ?_
  refine g_istore1 h dX1_solveShares_1 rfl (by decide) (pc' := 2) rfl ?_
  refine GG.castW (lp (P := fun i => GG Z X 2 [some (.ref (Z.2.2 2)), some (.int (nI i))] [] (wC Z n toll paid coin debt fall shr ((wEs toll pen coin debt fall (mat, rgt) i).1) ((wEs toll pen coin debt fall (mat, rgt) i).2) pen last below)) 4 ?_ ?_) ⟨rfl, rfl, trivial⟩ rfl rfl
  · skip
    refine g_iload_n (i := 1) h dX1_solveShares_2 rfl rfl (pc' := 3) rfl ?_
    refine g_iconst (v := nI 4) h dX1_solveShares_3 (by decide) (pc' := 4) rfl ?_
    refine g_icmp_geT (tg := 18) h dX1_solveShares_4 (by decide) (Int32.le_refl _) ?_
    refine g_aload_n (i := 0) h dX1_solveShares_18 rfl rfl (pc' := 19) rfl ?_
    refine g_aload_n (i := 0) h dX1_solveShares_19 rfl rfl (pc' := 20) rfl ?_
    refine g_iconst (v := (-1)) h dX1_solveShares_20 (by decide) (pc' := 21) rfl ?_
    refine g_callV1 (q0 := 2) h dX1_solveShares_21 cf_X1_78 (M_X1_determinant (p := (-1)) ) rfl rfl rfl rfl (by decide) rfl (Nat.le_of_ble_eq_true rfl) (pc' := 24) rfl ?_
    refine pf_X1_32 h dX1_solveShares_24 (pc' := 27) rfl ?_
    refine g_iconst (v := nI 0) h dX1_solveShares_27 (by decide) (pc' := 28) rfl ?_
    refine g_istore1 h dX1_solveShares_28 rfl (by decide) (pc' := 29) rfl ?_
    refine GG.castW (lp (P := fun i => GG Z X 29 [some (.ref (Z.2.2 2)), some (.int (nI i))] [] (wC Z n toll paid coin debt fall (sS (wEs toll pen coin debt fall (mat, rgt) 4).1 (wEs toll pen coin debt fall (mat, rgt) 4).2 shr i) ((wEs toll pen coin debt fall (mat, rgt) 4).1) ((wEs toll pen coin debt fall (mat, rgt) 4).2) pen last (dt ((wEs toll pen coin debt fall (mat, rgt) 4).1) ((wEs toll pen coin debt fall (mat, rgt) 4).2) (-1)))) 4 ?_ ?_) ⟨rfl, rfl, trivial⟩ rfl rfl
    · skip
      refine g_iload_n (i := 1) h dX1_solveShares_29 rfl rfl (pc' := 30) rfl ?_
      refine g_iconst (v := nI 4) h dX1_solveShares_30 (by decide) (pc' := 31) rfl ?_
      refine g_icmp_geT (tg := 53) h dX1_solveShares_31 (by decide) (Int32.le_refl _) ?_
      exact g_vret h hr dX1_solveShares_53 rfl rfl
    · intro i hi ih29
      refine g_iload_n (i := 1) h dX1_solveShares_29 rfl rfl (pc' := 30) rfl ?_
      refine g_iconst (v := nI 4) h dX1_solveShares_30 (by decide) (pc' := 31) rfl ?_
      refine g_icmp_geF (tg := 53) h dX1_solveShares_31 (by decide) (pc' := 34) rfl (nI_ge hi (by omega)) ?_
      refine g_aload_n (i := 0) h dX1_solveShares_34 rfl rfl (pc' := 35) rfl ?_
      refine gf_X1_15 h dX1_solveShares_35 (pc' := 38) rfl ?_
      refine g_iload_n (i := 1) h dX1_solveShares_38 rfl rfl (pc' := 39) rfl ?_
      refine g_aload_n (i := 0) h dX1_solveShares_39 rfl rfl (pc' := 40) rfl ?_
      refine g_iload_n (i := 1) h dX1_solveShares_40 rfl rfl (pc' := 41) rfl ?_
      refine g_callV1 (q0 := 2) h dX1_solveShares_41 cf_X1_78 (M_X1_determinant (p := nI i) ) rfl rfl rfl rfl (by decide) rfl (Nat.le_of_ble_eq_true rfl) (pc' := 44) rfl ?_
      refine g_callN0 h dX1_solveShares_44 cf_X1_44 (M_X3_putLong_7 (k := i) (x := dt ((wEs toll pen coin debt fall (mat, rgt) 4).1) ((wEs toll pen coin debt fall (mat, rgt) 4).2) (nI i)) (by omega)) rfl (by decide) rfl (Nat.le_of_ble_eq_true rfl) (pc' := 47) rfl ?_
      refine g_iinc1 (v := nI (i + 1)) h dX1_solveShares_47 rfl (inc1 i) (by decide) (pc' := 50) rfl ?_
      refine g_goto (pc' := 29) h dX1_solveShares_50 (by decide) ?_
      exact GG.castW ih29 ⟨rfl, rfl, trivial⟩ rfl rfl
  · intro i hi ih2
    refine g_iload_n (i := 1) h dX1_solveShares_2 rfl rfl (pc' := 3) rfl ?_
    refine g_iconst (v := nI 4) h dX1_solveShares_3 (by decide) (pc' := 4) rfl ?_
    refine g_icmp_geF (tg := 18) h dX1_solveShares_4 (by decide) (pc' := 7) rfl (nI_ge hi (by omega)) ?_
    refine g_aload_n (i := 0) h dX1_solveShares_7 rfl rfl (pc' := 8) rfl ?_
    refine g_iload_n (i := 1) h dX1_solveShares_8 rfl rfl (pc' := 9) rfl ?_
    refine g_callV0 (q0 := 2) h dX1_solveShares_9 cf_X1_74 (M_X1_writeEquation (i := i) (by omega)) rfl rfl rfl rfl (by decide) rfl (Nat.le_of_ble_eq_true rfl) (pc' := 12) rfl ?_
    refine g_iinc1 (v := nI (i + 1)) h dX1_solveShares_12 rfl (inc1 i) (by decide) (pc' := 15) rfl ?_
    refine g_goto (pc' := 2) h dX1_solveShares_15 (by decide) ?_
    exact GG.castW ih2 ⟨rfl, rfl, trivial⟩ rfl rfl
set_option maxRecDepth 20000 in
set_option maxHeartbeats 4000000 in
theorem M_X1_settle {Z : ZT} {n : Int32} {toll : Int32} {paid : Int32} {coin : Nat → Int32} {debt : Nat → Int32} {fall : Nat → Int32} {shr : Nat → Int64} {mat : Nat → Int64} {rgt : Nat → Int64} {pen : Int32} {last : Int32} {below : Int64} {p : Int32}   : MM Z yX1_settle cX1_settle 3 none 5 [.ref (Z.2.2 2), .int p] (wC Z n toll paid coin debt fall shr mat rgt pen last below) none (wC Z n toll paid coin debt ((cst toll p coin debt fall shr mat rgt).1) ((cst toll p coin debt fall shr mat rgt).2.1) ((cst toll p coin debt fall shr mat rgt).2.2.1) ((cst toll p coin debt fall shr mat rgt).2.2.2.1) p ((cst toll p coin debt fall shr mat rgt).2.2.2.2.1) ((cst toll p coin debt fall shr mat rgt).2.2.2.2.2)) := by
  refine MM.intro (by decide) [some (.ref (Z.2.2 2)), some (.int p), none] rfl (Nat.le_of_ble_eq_true rfl) (fun X (h : OK Z X cX1_settle RX1 3 (rmd 5)) hr => ?_)
  refine g_aload_n (i := 0) h dX1_settle_0 rfl rfl (pc' := 1) rfl ?_
  refine g_iload_n (i := 1) h dX1_settle_1 rfl rfl (pc' := 2) rfl ?_
  refine pf_X1_25 h dX1_settle_2 (pc' := 5) rfl ?_
  refine g_aload_n (i := 0) h dX1_settle_5 rfl rfl (pc' := 6) rfl ?_
  refine g_iconst (v := nI 0) h dX1_settle_6 (by decide) (pc' := 7) rfl ?_
  refine pf_X1_29 h dX1_settle_7 (pc' := 10) rfl ?_
  refine g_aload_n (i := 0) h dX1_settle_10 rfl rfl (pc' := 11) rfl ?_
  refine g_lconst (v := 1) h dX1_settle_11 (by decide) (pc' := 12) rfl ?_
  refine pf_X1_32 h dX1_settle_12 (pc' := 15) rfl ?_
  refine g_iconst (v := nI 0) h dX1_settle_15 (by decide) (pc' := 16) rfl ?_
  refine g_istore2 h dX1_settle_16 rfl (by decide) (pc' := 17) rfl ?_
  refine GG.castW (lp (P := fun j => GG Z X 17 [some (.ref (Z.2.2 2)), some (.int p), some (.int (nI j))] [] (wC Z n toll paid coin debt (zf fall j) (oS shr j) mat rgt p (nI 0) 1)) 4 ?_ ?_) ⟨rfl, rfl, rfl, trivial⟩ rfl (by rw [zf_0, oS_0])
  · skip
    refine g_iload_n (i := 2) h dX1_settle_17 rfl rfl (pc' := 18) rfl ?_
    refine g_iconst (v := nI 4) h dX1_settle_18 (by decide) (pc' := 19) rfl ?_
    refine g_icmp_geT (tg := 46) h dX1_settle_19 (by decide) (Int32.le_refl _) ?_
    refine g_iconst (v := nI 1) h dX1_settle_46 (by decide) (pc' := 47) rfl ?_
    refine g_istore2 h dX1_settle_47 rfl (by decide) (pc' := 48) rfl ?_
    have key48 : ∀ (k : Nat) (r : Nat) (s : cT), (r + k = 5) → (cst toll p coin debt fall shr mat rgt = stl toll p coin debt k r s) → GG Z X 48 [some (.ref (Z.2.2 2)), some (.int p), some (.int (nI r))] [] (wC Z n toll paid coin debt ((s).1) ((s).2.1) ((s).2.2.1) ((s).2.2.2.1) p ((s).2.2.2.2.1) ((s).2.2.2.2.2)) := by
      intro k
      induction k with
      | zero =>
        intro r s e48_0 e48_1
        refine g_iload_n (i := 2) h dX1_settle_48 rfl rfl (pc' := 49) rfl ?_
        refine g_iconst (v := nI 4) h dX1_settle_49 (by decide) (pc' := 50) rfl ?_
        refine g_icmp_gtT (tg := 79) h dX1_settle_50 (by decide) (by rw [show r = 5 by omega]; decide) ?_
        exact g_vret h hr dX1_settle_79 rfl (by rw [e48_1]; simp only [stl, ])
      | succ k ih48 =>
        intro r s e48_0 e48_1
        have hr4 : r ≤ 4 := by omega
        refine g_iload_n (i := 2) h dX1_settle_48 rfl rfl (pc' := 49) rfl ?_
        refine g_iconst (v := nI 4) h dX1_settle_49 (by decide) (pc' := 50) rfl ?_
        refine g_icmp_gtF (tg := 79) h dX1_settle_50 (by decide) (pc' := 53) rfl (nI_nlt hr4 (by decide)) ?_
        refine g_aload_n (i := 0) h dX1_settle_53 rfl rfl (pc' := 54) rfl ?_
        refine g_iload_n (i := 2) h dX1_settle_54 rfl rfl (pc' := 55) rfl ?_
        refine g_callV1 (q0 := 2) h dX1_settle_55 cf_X1_48 (M_X1_anyFallIn (r := r) ) rfl rfl rfl rfl (by decide) rfl (Nat.le_of_ble_eq_true rfl) (pc' := 58) rfl ?_
        refine g_if_ne (tg := 64) h dX1_settle_58 (by decide) (pc' := 61) rfl (fun c1 => ?_) (fun c1 => ?_)
        · skip
          refine g_aload_n (i := 0) h dX1_settle_64 rfl rfl (pc' := 65) rfl ?_
          refine g_iload_n (i := 2) h dX1_settle_65 rfl rfl (pc' := 66) rfl ?_
          refine pf_X1_29 h dX1_settle_66 (pc' := 69) rfl ?_
          refine g_aload_n (i := 0) h dX1_settle_69 rfl rfl (pc' := 70) rfl ?_
          refine g_callV0 (q0 := 2) h dX1_settle_70 cf_X1_52 (M_X1_solveShares  ) rfl rfl rfl rfl (by decide) rfl (Nat.le_of_ble_eq_true rfl) (pc' := 73) rfl ?_
          refine g_iinc2 (v := nI (r + 1)) h dX1_settle_73 rfl (inc1 r) (by decide) (pc' := 76) rfl ?_
          refine g_goto (pc' := 48) h dX1_settle_76 (by decide) ?_
          exact GG.castW (ih48 (r + 1) (slv toll p coin debt (aF (nI r) s.2.2.2.2.2 p coin debt s.2.1 s.1 4) (nI r) s) (by omega) (e48_1.trans (if_neg c1))) ⟨rfl, rfl, rfl, trivial⟩ rfl rfl
        · skip
          refine g_goto (pc' := 79) h dX1_settle_61 (by decide) ?_
          exact g_vret h hr dX1_settle_79 rfl (by rw [e48_1]; simp only [stl, if_pos c1])
    exact GG.castW (key48 4 1 (zf fall 4, oS shr 4, mat, rgt, nI 0, 1) rfl rfl) ⟨rfl, rfl, rfl, trivial⟩ rfl rfl
  · intro j hj ih17
    refine g_iload_n (i := 2) h dX1_settle_17 rfl rfl (pc' := 18) rfl ?_
    refine g_iconst (v := nI 4) h dX1_settle_18 (by decide) (pc' := 19) rfl ?_
    refine g_icmp_geF (tg := 46) h dX1_settle_19 (by decide) (pc' := 22) rfl (nI_ge hj (by omega)) ?_
    refine g_aload_n (i := 0) h dX1_settle_22 rfl rfl (pc' := 23) rfl ?_
    refine gf_X1_9 h dX1_settle_23 (pc' := 26) rfl ?_
    refine g_iload_n (i := 2) h dX1_settle_26 rfl rfl (pc' := 27) rfl ?_
    refine g_iconst (v := nI 0) h dX1_settle_27 (by decide) (pc' := 28) rfl ?_
    refine g_callN0 h dX1_settle_28 cf_X1_40 (M_X3_put_6 (k := j) (x := nI 0) (by omega)) rfl (by decide) rfl (Nat.le_of_ble_eq_true rfl) (pc' := 31) rfl ?_
    refine g_aload_n (i := 0) h dX1_settle_31 rfl rfl (pc' := 32) rfl ?_
    refine gf_X1_15 h dX1_settle_32 (pc' := 35) rfl ?_
    refine g_iload_n (i := 2) h dX1_settle_35 rfl rfl (pc' := 36) rfl ?_
    refine g_lconst (v := 1) h dX1_settle_36 (by decide) (pc' := 37) rfl ?_
    refine g_callN0 h dX1_settle_37 cf_X1_44 (M_X3_putLong_7 (k := j) (x := 1) (by omega)) rfl (by decide) rfl (Nat.le_of_ble_eq_true rfl) (pc' := 40) rfl ?_
    refine g_iinc2 (v := nI (j + 1)) h dX1_settle_40 rfl (inc1 j) (by decide) (pc' := 43) rfl ?_
    refine g_goto (pc' := 17) h dX1_settle_43 (by decide) ?_
    exact GG.castW ih17 ⟨rfl, rfl, rfl, trivial⟩ rfl (by rw [zf_s, oS_s])
set_option maxRecDepth 20000 in
set_option maxHeartbeats 4000000 in
theorem M_X1_fallenCount {Z : ZT} {n : Int32} {toll : Int32} {paid : Int32} {coin : Nat → Int32} {debt : Nat → Int32} {fall : Nat → Int32} {shr : Nat → Int64} {mat : Nat → Int64} {rgt : Nat → Int64} {pen : Int32} {last : Int32} {below : Int64}    : MM Z yX1_fallenCount cX1_fallenCount 3 (some .int) 3 [.ref (Z.2.2 2)] (wC Z n toll paid coin debt fall shr mat rgt pen last below) (some (.int (nI (fC fall 4)))) (wC Z n toll paid coin debt fall shr mat rgt pen last below) := by
  refine MM.intro (by decide) [some (.ref (Z.2.2 2)), none, none] rfl (Nat.le_of_ble_eq_true rfl) (fun X (h : OK Z X cX1_fallenCount RX1 3 (rmd 3)) hr => ?_)
  refine g_iconst (v := nI 0) h dX1_fallenCount_0 (by decide) (pc' := 1) rfl ?_
  refine g_istore1 h dX1_fallenCount_1 rfl (by decide) (pc' := 2) rfl ?_
  refine g_iconst (v := nI 0) h dX1_fallenCount_2 (by decide) (pc' := 3) rfl ?_
  refine g_istore2 h dX1_fallenCount_3 rfl (by decide) (pc' := 4) rfl ?_
  refine GG.castW (lp (P := fun j => GG Z X 4 [some (.ref (Z.2.2 2)), some (.int (nI (fC fall j))), some (.int (nI j))] [] (wC Z n toll paid coin debt fall shr mat rgt pen last below)) 4 ?_ ?_) ⟨rfl, rfl, rfl, trivial⟩ rfl rfl
  · skip
    refine g_iload_n (i := 2) h dX1_fallenCount_4 rfl rfl (pc' := 5) rfl ?_
    refine g_iconst (v := nI 4) h dX1_fallenCount_5 (by decide) (pc' := 6) rfl ?_
    refine g_icmp_geT (tg := 26) h dX1_fallenCount_6 (by decide) (Int32.le_refl _) ?_
    refine g_iload_n (i := 1) h dX1_fallenCount_26 rfl rfl (pc' := 27) rfl ?_
    exact g_iret h hr dX1_fallenCount_27 rfl rfl
  · intro j hj ih4
    refine g_iload_n (i := 2) h dX1_fallenCount_4 rfl rfl (pc' := 5) rfl ?_
    refine g_iconst (v := nI 4) h dX1_fallenCount_5 (by decide) (pc' := 6) rfl ?_
    refine g_icmp_geF (tg := 26) h dX1_fallenCount_6 (by decide) (pc' := 9) rfl (nI_ge hj (by omega)) ?_
    refine g_aload_n (i := 0) h dX1_fallenCount_9 rfl rfl (pc' := 10) rfl ?_
    refine g_iload_n (i := 2) h dX1_fallenCount_10 rfl rfl (pc' := 11) rfl ?_
    refine g_callV1 (q0 := 2) h dX1_fallenCount_11 cf_X1_55 (M_X1_isFallen (i := j) (by omega)) rfl rfl rfl rfl (by decide) rfl (Nat.le_of_ble_eq_true rfl) (pc' := 14) rfl ?_
    refine g_ifb_eq (tg := 20) h dX1_fallenCount_14 (by decide) (pc' := 17) rfl (fun c1 => ?_) (fun c1 => ?_)
    · skip
      refine g_iinc2 (v := nI (j + 1)) h dX1_fallenCount_20 rfl (inc1 j) (by decide) (pc' := 23) rfl ?_
      refine g_goto (pc' := 4) h dX1_fallenCount_23 (by decide) ?_
      exact GG.castW ih4 ⟨rfl, (by simp only [List.head?_cons, List.tail_cons, fC, if_neg c1]), rfl, trivial⟩ rfl rfl
    · skip
      refine g_iinc1 (v := nI (fC fall j + 1)) h dX1_fallenCount_17 rfl (inc1 (fC fall j)) (by decide) (pc' := 20) rfl ?_
      refine g_iinc2 (v := nI (j + 1)) h dX1_fallenCount_20 rfl (inc1 j) (by decide) (pc' := 23) rfl ?_
      refine g_goto (pc' := 4) h dX1_fallenCount_23 (by decide) ?_
      exact GG.castW ih4 ⟨rfl, (by simp only [List.head?_cons, List.tail_cons, fC, if_pos c1]), rfl, trivial⟩ rfl rfl
set_option maxRecDepth 20000 in
set_option maxHeartbeats 4000000 in
theorem M_X1_leftAbove {Z : ZT} {n : Int32} {toll : Int32} {paid : Int32} {coin : Nat → Int32} {debt : Nat → Int32} {fall : Nat → Int32} {shr : Nat → Int64} {mat : Nat → Int64} {rgt : Nat → Int64} {pen : Int32} {last : Int32} {below : Int64} {i : Nat}  (g0 : i < 4) : MM Z yX1_leftAbove cX1_leftAbove 2 (some .long) 4 [.ref (Z.2.2 2), .int (nI i)] (wC Z n toll paid coin debt fall shr mat rgt pen last below) (some (.long (if fl fall i then 0 else gA below pen coin debt shr i 4 - below * (oB debt i).toInt64))) (wC Z n toll paid coin debt fall shr mat rgt pen last below) := by
  refine MM.intro (by decide) [some (.ref (Z.2.2 2)), some (.int (nI i))] rfl (Nat.le_of_ble_eq_true rfl) (fun X (h : OK Z X cX1_leftAbove RX1 2 (rmd 4)) hr => ?_)
  refine g_aload_n (i := 0) h dX1_leftAbove_0 rfl rfl (pc' := 1) rfl ?_
  refine g_iload_n (i := 1) h dX1_leftAbove_1 rfl rfl (pc' := 2) rfl ?_
  refine g_callV1 (q0 := 2) h dX1_leftAbove_2 cf_X1_55 (M_X1_isFallen (i := i) (by omega)) rfl rfl rfl rfl (by decide) rfl (Nat.le_of_ble_eq_true rfl) (pc' := 5) rfl ?_
  refine g_ifb_eq (tg := 12) h dX1_leftAbove_5 (by decide) (pc' := 8) rfl (fun c1 => ?_) (fun c1 => ?_)
  · skip
    refine g_aload_n (i := 0) h dX1_leftAbove_12 rfl rfl (pc' := 13) rfl ?_
    refine g_iload_n (i := 1) h dX1_leftAbove_13 rfl rfl (pc' := 14) rfl ?_
    refine g_callV1 (q0 := 2) h dX1_leftAbove_14 cf_X1_58 (M_X1_grossAbove (i := i) (by omega)) rfl rfl rfl rfl (by decide) rfl (Nat.le_of_ble_eq_true rfl) (pc' := 17) rfl ?_
    refine g_aload_n (i := 0) h dX1_leftAbove_17 rfl rfl (pc' := 18) rfl ?_
    refine gf_X1_32 h dX1_leftAbove_18 (pc' := 21) rfl ?_
    refine g_aload_n (i := 0) h dX1_leftAbove_21 rfl rfl (pc' := 22) rfl ?_
    refine gf_X1_36 h dX1_leftAbove_22 (pc' := 25) rfl ?_
    refine g_iload_n (i := 1) h dX1_leftAbove_25 rfl rfl (pc' := 26) rfl ?_
    refine g_callV1 (q0 := 1) h dX1_leftAbove_26 cf_X1_62 (M_X0_allOwedBy (i := i) (by omega)) rfl rfl rfl rfl (by decide) rfl (Nat.le_of_ble_eq_true rfl) (pc' := 29) rfl ?_
    refine g_i2l h dX1_leftAbove_29 (pc' := 30) rfl ?_
    refine g_lmul h dX1_leftAbove_30 (pc' := 31) rfl ?_
    refine g_lsub h dX1_leftAbove_31 (pc' := 32) rfl ?_
    exact g_lret h hr dX1_leftAbove_32 (by first | rfl | simp only [if_neg c1] | simp [c1]) rfl
  · skip
    refine g_lconst (v := 0) h dX1_leftAbove_8 (by decide) (pc' := 9) rfl ?_
    refine g_goto (pc' := 32) h dX1_leftAbove_9 (by decide) ?_
    exact g_lret h hr dX1_leftAbove_32 (by first | rfl | simp only [if_pos c1] | simp [c1]) rfl
set_option maxRecDepth 20000 in
set_option maxHeartbeats 4000000 in
theorem M_X1_lostAbove {Z : ZT} {n : Int32} {toll : Int32} {paid : Int32} {coin : Nat → Int32} {debt : Nat → Int32} {fall : Nat → Int32} {shr : Nat → Int64} {mat : Nat → Int64} {rgt : Nat → Int64} {pen : Int32} {last : Int32} {below : Int64}    : MM Z yX1_lostAbove cX1_lostAbove 4 (some .long) 4 [.ref (Z.2.2 2)] (wC Z n toll paid coin debt fall shr mat rgt pen last below) (some (.long (lA toll below pen coin debt shr fall 4))) (wC Z n toll paid coin debt fall shr mat rgt pen last below) := by
  refine MM.intro (by decide) [some (.ref (Z.2.2 2)), none, none, none] rfl (Nat.le_of_ble_eq_true rfl) (fun X (h : OK Z X cX1_lostAbove RX1 4 (rmd 4)) hr => ?_)
  refine g_lconst (v := 0) h dX1_lostAbove_0 (by decide) (pc' := 1) rfl ?_
  refine g_lstore1 h dX1_lostAbove_1 rfl (by decide) (pc' := 2) rfl ?_
  refine g_iconst (v := nI 0) h dX1_lostAbove_2 (by decide) (pc' := 3) rfl ?_
  refine g_istore3 h dX1_lostAbove_3 rfl (by decide) (pc' := 4) rfl ?_
  refine GG.castW (lp (P := fun j => GG Z X 4 [some (.ref (Z.2.2 2)), some (.long (lA toll below pen coin debt shr fall j)), none, some (.int (nI j))] [] (wC Z n toll paid coin debt fall shr mat rgt pen last below)) 4 ?_ ?_) ⟨rfl, rfl, rfl, trivial⟩ rfl rfl
  · skip
    refine g_iload_n (i := 3) h dX1_lostAbove_4 rfl rfl (pc' := 5) rfl ?_
    refine g_iconst (v := nI 4) h dX1_lostAbove_5 (by decide) (pc' := 6) rfl ?_
    refine g_icmp_geT (tg := 40) h dX1_lostAbove_6 (by decide) (Int32.le_refl _) ?_
    refine g_lload_n (i := 1) h dX1_lostAbove_40 rfl rfl (pc' := 41) rfl ?_
    exact g_lret h hr dX1_lostAbove_41 rfl rfl
  · intro j hj ih4
    refine g_iload_n (i := 3) h dX1_lostAbove_4 rfl rfl (pc' := 5) rfl ?_
    refine g_iconst (v := nI 4) h dX1_lostAbove_5 (by decide) (pc' := 6) rfl ?_
    refine g_icmp_geF (tg := 40) h dX1_lostAbove_6 (by decide) (pc' := 9) rfl (nI_ge hj (by omega)) ?_
    refine g_aload_n (i := 0) h dX1_lostAbove_9 rfl rfl (pc' := 10) rfl ?_
    refine g_iload_n (i := 3) h dX1_lostAbove_10 rfl rfl (pc' := 11) rfl ?_
    refine g_callV1 (q0 := 2) h dX1_lostAbove_11 cf_X1_55 (M_X1_isFallen (i := j) (by omega)) rfl rfl rfl rfl (by decide) rfl (Nat.le_of_ble_eq_true rfl) (pc' := 14) rfl ?_
    refine g_ifb_eq (tg := 34) h dX1_lostAbove_14 (by decide) (pc' := 17) rfl (fun c1 => ?_) (fun c1 => ?_)
    · skip
      refine g_iinc3 (v := nI (j + 1)) h dX1_lostAbove_34 rfl (inc1 j) (by decide) (pc' := 37) rfl ?_
      refine g_goto (pc' := 4) h dX1_lostAbove_37 (by decide) ?_
      exact GG.castW ih4 ⟨rfl, (by simp only [List.head?_cons, List.tail_cons, lA, if_neg c1]), rfl, trivial⟩ rfl rfl
    · skip
      refine g_lload_n (i := 1) h dX1_lostAbove_17 rfl rfl (pc' := 18) rfl ?_
      refine g_aload_n (i := 0) h dX1_lostAbove_18 rfl rfl (pc' := 19) rfl ?_
      refine g_iload_n (i := 3) h dX1_lostAbove_19 rfl rfl (pc' := 20) rfl ?_
      refine g_callV1 (q0 := 2) h dX1_lostAbove_20 cf_X1_58 (M_X1_grossAbove (i := j) (by omega)) rfl rfl rfl rfl (by decide) rfl (Nat.le_of_ble_eq_true rfl) (pc' := 23) rfl ?_
      refine g_aload_n (i := 0) h dX1_lostAbove_23 rfl rfl (pc' := 24) rfl ?_
      refine gf_X1_36 h dX1_lostAbove_24 (pc' := 27) rfl ?_
      refine gf_X1_81 h dX1_lostAbove_27 (pc' := 30) rfl ?_
      refine g_i2l h dX1_lostAbove_30 (pc' := 31) rfl ?_
      refine g_lmul h dX1_lostAbove_31 (pc' := 32) rfl ?_
      refine g_ladd h dX1_lostAbove_32 (pc' := 33) rfl ?_
      refine g_lstore1 h dX1_lostAbove_33 rfl (by decide) (pc' := 34) rfl ?_
      refine g_iinc3 (v := nI (j + 1)) h dX1_lostAbove_34 rfl (inc1 j) (by decide) (pc' := 37) rfl ?_
      refine g_goto (pc' := 4) h dX1_lostAbove_37 (by decide) ?_
      exact GG.castW ih4 ⟨rfl, (by simp only [List.head?_cons, List.tail_cons, lA, if_pos c1]), rfl, trivial⟩ rfl rfl
end
section
def fgL : List Nat := [12, 13, 14, 23, 24, 34, 123, 124, 132, 134, 142, 143, 234, 243, 1234, 1243, 1324, 1342, 1423, 1432]
def fg (k : Nat) : Nat := fgL.getD k 0
theorem all_fg : ∀ k, k < 20 → allR k = nI (fg k) := by decide
theorem M_X3_at_allN {Z : ZT} {w : va_W} {k : Nat} (hk : k < 20) : MM Z yX3_at cX3_at 2 (some .int) 0 [.ref (Z.2.2 21), .int (nI k)] w (some (.int (nI (fg k)))) w := by
  rw [← all_fg k hk]
  exact M_X3_at_all hk
def fo (g : Nat) : Nat := (if 100 ≤ g then (if 1000 ≤ g then g / 1000 else g / 100) else g / 10) - 1
def sz (g : Nat) : Nat := if 100 ≤ g then (if 1000 ≤ g then 4 else 3) else 2
theorem sz_le (g : Nat) : sz g ≤ 4 := by unfold sz; split <;> (try split) <;> omega
/-- a ring's figures are walked from the last house back -/
def rs (g : Nat) : Nat → Nat
  | 0 => g
  | j + 1 => rs g j / 10
theorem rs_le (g : Nat) : ∀ j, rs g j ≤ g
  | 0 => Nat.le_refl _
  | j + 1 => by
    rw [rs]
    have := rs_le g j
    omega
def pe (g : Nat) : Nat → Nat
  | 0 => fo g
  | j + 1 => rs g j % 10 - 1
/-- the cell of the ring's debt at a step -/
abbrev ce (g j : Nat) : Nat := (rs g j % 10 - 1) * 5 + pe g j
def lm (debt : Nat → Int32) (g : Nat) : Nat → Int32
  | 0 => nI 50
  | j + 1 => if debt (ce g j) < lm debt g j then debt (ce g j) else lm debt g j
def ls (debt : Nat → Int32) (g : Nat) (v : Int32) : Nat → Nat → Int32
  | 0 => debt
  | j + 1 => upd (ls debt g v j) (ce g j) (ls debt g v j (ce g j) - v)
abbrev okg (g : Nat) : Prop := ∀ j, j < sz g → pe g j < 4 ∧ 1 ≤ rs g j % 10 ∧ rs g j % 10 ≤ 4
theorem ok_fg : ∀ k, k < 20 → 12 ≤ fg k ∧ fg k < 10000 ∧ okg (fg k) := by decide
def hm (debt : Nat → Int32) : Nat → Nat
  | 0 => 0
  | j + 1 => if lm debt (fg j) (sz (fg j)) ≤ 0 then hm debt j else hm debt j + 1
def fgo (debt : Nat → Int32) (q : Int32) : Nat → Nat → Nat → Int32
  | 0, _, _ => (-1)
  | k + 1, j, f => if lm debt (fg j) (sz (fg j)) ≤ 0 then fgo debt q k (j + 1) f else if nI f = q then nI (fg j) else fgo debt q k (j + 1) (f + 1)
set_option maxRecDepth 20000 in
set_option maxHeartbeats 4000000 in
theorem M_X2_sizeOf {Z : ZT} {n : Int32} {toll : Int32} {paid : Int32} {coin : Nat → Int32} {debt : Nat → Int32} {fall : Nat → Int32} {shr : Nat → Int64} {mat : Nat → Int64} {rgt : Nat → Int64} {pen : Int32} {last : Int32} {below : Int64} {g : Nat}  (g0 : 12 ≤ g) (g1 : g < 10000) : MM Z yX2_sizeOf cX2_sizeOf 2 (some .int) 0 [.ref (Z.2.2 3), .int (nI g)] (wC Z n toll paid coin debt fall shr mat rgt pen last below) (some (.int (nI (sz g)))) (wC Z n toll paid coin debt fall shr mat rgt pen last below) := by
  refine MM.intro (by decide) [some (.ref (Z.2.2 3)), some (.int (nI g))] rfl (Nat.le_of_ble_eq_true rfl) (fun X (h : OK Z X cX2_sizeOf RX2 2 (rmd 0)) hr => ?_)
  refine g_iload_n (i := 1) h dX2_sizeOf_0 rfl rfl (pc' := 1) rfl ?_
  refine g_bipush (v := nI 100) h dX2_sizeOf_1 (by decide) (pc' := 3) rfl ?_
  refine g_icmp_ge (tg := 10) h dX2_sizeOf_3 (by decide) (pc' := 6) rfl (fun c1 => ?_) (fun c1 => ?_)
  · skip
    have d1 : 100 ≤ g := (nI_leI (by decide) (by omega)).mp c1
    refine g_iload_n (i := 1) h dX2_sizeOf_10 rfl rfl (pc' := 11) rfl ?_
    refine g_sipush (v := nI 1000) h dX2_sizeOf_11 (by decide) (pc' := 14) rfl ?_
    refine g_icmp_ge (tg := 21) h dX2_sizeOf_14 (by decide) (pc' := 17) rfl (fun c2 => ?_) (fun c2 => ?_)
    · skip
      have d2 : 1000 ≤ g := (nI_leI (by decide) (by omega)).mp c2
      refine g_iconst (v := nI 4) h dX2_sizeOf_21 (by decide) (pc' := 22) rfl ?_
      exact g_iret h hr dX2_sizeOf_22 (by rw [sz, if_pos d1, if_pos d2]) rfl
    · skip
      have d2 : ¬ 1000 ≤ g := fun q => c2 (nI_le q (by omega))
      refine g_iconst (v := nI 3) h dX2_sizeOf_17 (by decide) (pc' := 18) rfl ?_
      refine g_goto (pc' := 22) h dX2_sizeOf_18 (by decide) ?_
      exact g_iret h hr dX2_sizeOf_22 (by rw [sz, if_pos d1, if_neg d2]) rfl
  · skip
    have d1 : ¬ 100 ≤ g := fun q => c1 (nI_le q (by omega))
    refine g_iconst (v := nI 2) h dX2_sizeOf_6 (by decide) (pc' := 7) rfl ?_
    refine g_goto (pc' := 22) h dX2_sizeOf_7 (by decide) ?_
    exact g_iret h hr dX2_sizeOf_22 (by rw [sz, if_neg d1]) rfl
set_option maxRecDepth 20000 in
set_option maxHeartbeats 4000000 in
theorem M_X2_firstOf {Z : ZT} {n : Int32} {toll : Int32} {paid : Int32} {coin : Nat → Int32} {debt : Nat → Int32} {fall : Nat → Int32} {shr : Nat → Int64} {mat : Nat → Int64} {rgt : Nat → Int64} {pen : Int32} {last : Int32} {below : Int64} {g : Nat}  (g0 : 12 ≤ g) (g1 : g < 10000) : MM Z yX2_firstOf cX2_firstOf 2 (some .int) 0 [.ref (Z.2.2 3), .int (nI g)] (wC Z n toll paid coin debt fall shr mat rgt pen last below) (some (.int (nI (fo g)))) (wC Z n toll paid coin debt fall shr mat rgt pen last below) := by
  refine MM.intro (by decide) [some (.ref (Z.2.2 3)), some (.int (nI g))] rfl (Nat.le_of_ble_eq_true rfl) (fun X (h : OK Z X cX2_firstOf RX2 2 (rmd 0)) hr => ?_)
  refine g_iload_n (i := 1) h dX2_firstOf_0 rfl rfl (pc' := 1) rfl ?_
  refine g_bipush (v := nI 100) h dX2_firstOf_1 (by decide) (pc' := 3) rfl ?_
  refine g_icmp_ge (tg := 13) h dX2_firstOf_3 (by decide) (pc' := 6) rfl (fun c1 => ?_) (fun c1 => ?_)
  · skip
    have d1 : 100 ≤ g := (nI_leI (by decide) (by omega)).mp c1
    refine g_iload_n (i := 1) h dX2_firstOf_13 rfl rfl (pc' := 14) rfl ?_
    refine g_sipush (v := nI 1000) h dX2_firstOf_14 (by decide) (pc' := 17) rfl ?_
    refine g_icmp_ge (tg := 27) h dX2_firstOf_17 (by decide) (pc' := 20) rfl (fun c2 => ?_) (fun c2 => ?_)
    · skip
      have d2 : 1000 ≤ g := (nI_leI (by decide) (by omega)).mp c2
      refine g_iload_n (i := 1) h dX2_firstOf_27 rfl rfl (pc' := 28) rfl ?_
      refine g_sipush (v := nI 1000) h dX2_firstOf_28 (by decide) (pc' := 31) rfl ?_
      refine g_idivN h dX2_firstOf_31 (by omega) (by omega) (by omega) (pc' := 32) rfl ?_
      refine g_iconst (v := nI 1) h dX2_firstOf_32 (by decide) (pc' := 33) rfl ?_
      refine g_isubN h dX2_firstOf_33 (by omega) (pc' := 34) rfl ?_
      exact g_iret h hr dX2_firstOf_34 (by rw [fo, if_pos d1, if_pos d2]) rfl
    · skip
      have d2 : ¬ 1000 ≤ g := fun q => c2 (nI_le q (by omega))
      refine g_iload_n (i := 1) h dX2_firstOf_20 rfl rfl (pc' := 21) rfl ?_
      refine g_bipush (v := nI 100) h dX2_firstOf_21 (by decide) (pc' := 23) rfl ?_
      refine g_idivN h dX2_firstOf_23 (by omega) (by omega) (by omega) (pc' := 24) rfl ?_
      refine g_goto (pc' := 32) h dX2_firstOf_24 (by decide) ?_
      refine g_iconst (v := nI 1) h dX2_firstOf_32 (by decide) (pc' := 33) rfl ?_
      refine g_isubN h dX2_firstOf_33 (by omega) (pc' := 34) rfl ?_
      exact g_iret h hr dX2_firstOf_34 (by rw [fo, if_pos d1, if_neg d2]) rfl
  · skip
    have d1 : ¬ 100 ≤ g := fun q => c1 (nI_le q (by omega))
    refine g_iload_n (i := 1) h dX2_firstOf_6 rfl rfl (pc' := 7) rfl ?_
    refine g_bipush (v := nI 10) h dX2_firstOf_7 (by decide) (pc' := 9) rfl ?_
    refine g_idivN h dX2_firstOf_9 (by omega) (by omega) (by omega) (pc' := 10) rfl ?_
    refine g_goto (pc' := 32) h dX2_firstOf_10 (by decide) ?_
    refine g_iconst (v := nI 1) h dX2_firstOf_32 (by decide) (pc' := 33) rfl ?_
    refine g_isubN h dX2_firstOf_33 (by omega) (pc' := 34) rfl ?_
    exact g_iret h hr dX2_firstOf_34 (by rw [fo, if_neg d1]) rfl
set_option maxRecDepth 20000 in
set_option maxHeartbeats 4000000 in
theorem M_X2_leastDebt {Z : ZT} {n : Int32} {toll : Int32} {paid : Int32} {coin : Nat → Int32} {debt : Nat → Int32} {fall : Nat → Int32} {shr : Nat → Int64} {mat : Nat → Int64} {rgt : Nat → Int64} {pen : Int32} {last : Int32} {below : Int64} {g : Nat}  (g0 : 12 ≤ g) (g1 : g < 10000) (g2 : okg g) : MM Z yX2_leastDebt cX2_leastDebt 7 (some .int) 2 [.ref (Z.2.2 3), .int (nI g)] (wC Z n toll paid coin debt fall shr mat rgt pen last below) (some (.int (lm debt g (sz g)))) (wC Z n toll paid coin debt fall shr mat rgt pen last below) := by
  refine MM.intro (by decide) [some (.ref (Z.2.2 3)), some (.int (nI g)), none, none, none, none, none] rfl (Nat.le_of_ble_eq_true rfl) (fun X (h : OK Z X cX2_leastDebt RX2 7 (rmd 2)) hr => ?_)
  refine g_bipush (v := nI 50) h dX2_leastDebt_0 (by decide) (pc' := 2) rfl ?_
  refine g_istore2 h dX2_leastDebt_2 rfl (by decide) (pc' := 3) rfl ?_
  refine g_aload_n (i := 0) h dX2_leastDebt_3 rfl rfl (pc' := 4) rfl ?_
  refine g_iload_n (i := 1) h dX2_leastDebt_4 rfl rfl (pc' := 5) rfl ?_
  refine g_callV1 (q0 := 3) h dX2_leastDebt_5 cf_X2_27 (M_X2_firstOf (g := g) (by omega) (by omega)) rfl rfl rfl rfl (by decide) rfl (Nat.le_of_ble_eq_true rfl) (pc' := 8) rfl ?_
  refine g_istore3 h dX2_leastDebt_8 rfl (by decide) (pc' := 9) rfl ?_
  refine g_iload_n (i := 1) h dX2_leastDebt_9 rfl rfl (pc' := 10) rfl ?_
  refine g_istore4 h dX2_leastDebt_10 rfl (by decide) (pc' := 12) rfl ?_
  refine g_iconst (v := nI 0) h dX2_leastDebt_12 (by decide) (pc' := 13) rfl ?_
  refine g_istore5 h dX2_leastDebt_13 rfl (by decide) (pc' := 15) rfl ?_
  refine GG.castW (lp (P := fun j => GG Z X 15 [some (.ref (Z.2.2 3)), some (.int (nI g)), some (.int (lm debt g j)), some (.int (nI (pe g j))), some (.int (nI (rs g j))), some (.int (nI j)), none] [] (wC Z n toll paid coin debt fall shr mat rgt pen last below)) (sz g) ?_ ?_) ⟨rfl, rfl, rfl, rfl, rfl, rfl, trivial⟩ rfl rfl
  · skip
    have hsz := sz_le g
    refine g_iload h dX2_leastDebt_15 rfl (pc' := 17) rfl ?_
    refine g_aload_n (i := 0) h dX2_leastDebt_17 rfl rfl (pc' := 18) rfl ?_
    refine g_iload_n (i := 1) h dX2_leastDebt_18 rfl rfl (pc' := 19) rfl ?_
    refine g_callV1 (q0 := 3) h dX2_leastDebt_19 cf_X2_30 (M_X2_sizeOf (g := g) (by omega) (by omega)) rfl rfl rfl rfl (by decide) rfl (Nat.le_of_ble_eq_true rfl) (pc' := 22) rfl ?_
    refine g_icmp_geT (tg := 65) h dX2_leastDebt_22 (by decide) (Int32.le_refl _) ?_
    refine g_iload_n (i := 2) h dX2_leastDebt_65 rfl rfl (pc' := 66) rfl ?_
    exact g_iret h hr dX2_leastDebt_66 rfl rfl
  · intro j hj ih15
    have hsz := sz_le g; have hk := g2 j hj; have hrs := rs_le g j
    refine g_iload h dX2_leastDebt_15 rfl (pc' := 17) rfl ?_
    refine g_aload_n (i := 0) h dX2_leastDebt_17 rfl rfl (pc' := 18) rfl ?_
    refine g_iload_n (i := 1) h dX2_leastDebt_18 rfl rfl (pc' := 19) rfl ?_
    refine g_callV1 (q0 := 3) h dX2_leastDebt_19 cf_X2_30 (M_X2_sizeOf (g := g) (by omega) (by omega)) rfl rfl rfl rfl (by decide) rfl (Nat.le_of_ble_eq_true rfl) (pc' := 22) rfl ?_
    refine g_icmp_geF (tg := 65) h dX2_leastDebt_22 (by decide) (pc' := 25) rfl (nI_ge hj (by omega)) ?_
    refine g_iload h dX2_leastDebt_25 rfl (pc' := 27) rfl ?_
    refine g_bipush (v := nI 10) h dX2_leastDebt_27 (by decide) (pc' := 29) rfl ?_
    refine g_iremN h dX2_leastDebt_29 (by omega) (by omega) (by omega) (pc' := 30) rfl ?_
    refine g_iconst (v := nI 1) h dX2_leastDebt_30 (by decide) (pc' := 31) rfl ?_
    refine g_isubN h dX2_leastDebt_31 (by omega) (pc' := 32) rfl ?_
    refine g_istore6 h dX2_leastDebt_32 rfl (by decide) (pc' := 34) rfl ?_
    refine g_iload_n (i := 2) h dX2_leastDebt_34 rfl rfl (pc' := 35) rfl ?_
    refine g_aload_n (i := 0) h dX2_leastDebt_35 rfl rfl (pc' := 36) rfl ?_
    refine gf_X2_9 h dX2_leastDebt_36 (pc' := 39) rfl ?_
    refine g_iload h dX2_leastDebt_39 rfl (pc' := 41) rfl ?_
    refine g_iload_n (i := 3) h dX2_leastDebt_41 rfl rfl (pc' := 42) rfl ?_
    refine g_callV1 (q0 := 1) h dX2_leastDebt_42 cf_X2_33 (M_X0_owed (i := ((rs g j) % 10) - 1) (c := pe g j) (by omega) (by omega)) rfl rfl rfl rfl (by decide) rfl (Nat.le_of_ble_eq_true rfl) (pc' := 45) rfl ?_
    refine g_mmin ml_X2_39 ms_min mi_math mc_min h dX2_leastDebt_45 (by decide) (Nat.le_of_ble_eq_true rfl) (pc' := 48) rfl ?_
    refine g_istore2 h dX2_leastDebt_48 rfl (by decide) (pc' := 49) rfl ?_
    refine g_iload h dX2_leastDebt_49 rfl (pc' := 51) rfl ?_
    refine g_istore3 h dX2_leastDebt_51 rfl (by decide) (pc' := 52) rfl ?_
    refine g_iload h dX2_leastDebt_52 rfl (pc' := 54) rfl ?_
    refine g_bipush (v := nI 10) h dX2_leastDebt_54 (by decide) (pc' := 56) rfl ?_
    refine g_idivN h dX2_leastDebt_56 (by omega) (by omega) (by omega) (pc' := 57) rfl ?_
    refine g_istore4 h dX2_leastDebt_57 rfl (by decide) (pc' := 59) rfl ?_
    refine g_iinc5 (v := nI (j + 1)) h dX2_leastDebt_59 rfl (inc1 j) (by decide) (pc' := 62) rfl ?_
    refine g_goto (pc' := 15) h dX2_leastDebt_62 (by decide) ?_
    exact GG.castW ih15 ⟨rfl, rfl, rfl, rfl, rfl, rfl, trivial⟩ rfl rfl
set_option maxRecDepth 20000 in
set_option maxHeartbeats 4000000 in
theorem M_X2_lessen {Z : ZT} {n : Int32} {toll : Int32} {paid : Int32} {coin : Nat → Int32} {debt : Nat → Int32} {fall : Nat → Int32} {shr : Nat → Int64} {mat : Nat → Int64} {rgt : Nat → Int64} {pen : Int32} {last : Int32} {below : Int64} {g : Nat}  (g0 : 12 ≤ g) (g1 : g < 10000) (g2 : okg g) : MM Z yX2_lessen cX2_lessen 7 (some .int) 3 [.ref (Z.2.2 3), .int (nI g)] (wC Z n toll paid coin debt fall shr mat rgt pen last below) (some (.int (lm debt g (sz g)))) (wC Z n toll paid coin (ls debt g (lm debt g (sz g)) (sz g)) fall shr mat rgt pen last below) := by
  refine MM.intro (by decide) [some (.ref (Z.2.2 3)), some (.int (nI g)), none, none, none, none, none] rfl (Nat.le_of_ble_eq_true rfl) (fun X (h : OK Z X cX2_lessen RX2 7 (rmd 3)) hr => ?_)
  refine g_aload_n (i := 0) h dX2_lessen_0 rfl rfl (pc' := 1) rfl ?_
  refine g_iload_n (i := 1) h dX2_lessen_1 rfl rfl (pc' := 2) rfl ?_
  refine g_callV1 (q0 := 3) h dX2_lessen_2 cf_X2_23 (M_X2_leastDebt (g := g) g0 g1 g2) rfl rfl rfl rfl (by decide) rfl (Nat.le_of_ble_eq_true rfl) (pc' := 5) rfl ?_
  refine g_istore2 h dX2_lessen_5 rfl (by decide) (pc' := 6) rfl ?_
  refine g_aload_n (i := 0) h dX2_lessen_6 rfl rfl (pc' := 7) rfl ?_
  refine g_iload_n (i := 1) h dX2_lessen_7 rfl rfl (pc' := 8) rfl ?_
  refine g_callV1 (q0 := 3) h dX2_lessen_8 cf_X2_27 (M_X2_firstOf (g := g) (by omega) (by omega)) rfl rfl rfl rfl (by decide) rfl (Nat.le_of_ble_eq_true rfl) (pc' := 11) rfl ?_
  refine g_istore3 h dX2_lessen_11 rfl (by decide) (pc' := 12) rfl ?_
  refine g_iload_n (i := 1) h dX2_lessen_12 rfl rfl (pc' := 13) rfl ?_
  refine g_istore4 h dX2_lessen_13 rfl (by decide) (pc' := 15) rfl ?_
  refine g_iconst (v := nI 0) h dX2_lessen_15 (by decide) (pc' := 16) rfl ?_
  refine g_istore5 h dX2_lessen_16 rfl (by decide) (pc' := 18) rfl ?_
  refine GG.castW (lp (P := fun j => GG Z X 18 [some (.ref (Z.2.2 3)), some (.int (nI g)), some (.int (lm debt g (sz g))), some (.int (nI (pe g j))), some (.int (nI (rs g j))), some (.int (nI j)), none] [] (wC Z n toll paid coin (ls debt g (lm debt g (sz g)) j) fall shr mat rgt pen last below)) (sz g) ?_ ?_) ⟨rfl, rfl, rfl, rfl, rfl, rfl, trivial⟩ rfl rfl
  · skip
    have hsz := sz_le g
    refine g_iload h dX2_lessen_18 rfl (pc' := 20) rfl ?_
    refine g_aload_n (i := 0) h dX2_lessen_20 rfl rfl (pc' := 21) rfl ?_
    refine g_iload_n (i := 1) h dX2_lessen_21 rfl rfl (pc' := 22) rfl ?_
    refine g_callV1 (q0 := 3) h dX2_lessen_22 cf_X2_30 (M_X2_sizeOf (g := g) (by omega) (by omega)) rfl rfl rfl rfl (by decide) rfl (Nat.le_of_ble_eq_true rfl) (pc' := 25) rfl ?_
    refine g_icmp_geT (tg := 75) h dX2_lessen_25 (by decide) (Int32.le_refl _) ?_
    refine g_iload_n (i := 2) h dX2_lessen_75 rfl rfl (pc' := 76) rfl ?_
    exact g_iret h hr dX2_lessen_76 rfl rfl
  · intro j hj ih18
    have hsz := sz_le g; have hk := g2 j hj; have hrs := rs_le g j
    refine g_iload h dX2_lessen_18 rfl (pc' := 20) rfl ?_
    refine g_aload_n (i := 0) h dX2_lessen_20 rfl rfl (pc' := 21) rfl ?_
    refine g_iload_n (i := 1) h dX2_lessen_21 rfl rfl (pc' := 22) rfl ?_
    refine g_callV1 (q0 := 3) h dX2_lessen_22 cf_X2_30 (M_X2_sizeOf (g := g) (by omega) (by omega)) rfl rfl rfl rfl (by decide) rfl (Nat.le_of_ble_eq_true rfl) (pc' := 25) rfl ?_
    refine g_icmp_geF (tg := 75) h dX2_lessen_25 (by decide) (pc' := 28) rfl (nI_ge hj (by omega)) ?_
    refine g_iload h dX2_lessen_28 rfl (pc' := 30) rfl ?_
    refine g_bipush (v := nI 10) h dX2_lessen_30 (by decide) (pc' := 32) rfl ?_
    refine g_iremN h dX2_lessen_32 (by omega) (by omega) (by omega) (pc' := 33) rfl ?_
    refine g_iconst (v := nI 1) h dX2_lessen_33 (by decide) (pc' := 34) rfl ?_
    refine g_isubN h dX2_lessen_34 (by omega) (pc' := 35) rfl ?_
    refine g_istore6 h dX2_lessen_35 rfl (by decide) (pc' := 37) rfl ?_
    refine g_aload_n (i := 0) h dX2_lessen_37 rfl rfl (pc' := 38) rfl ?_
    refine gf_X2_9 h dX2_lessen_38 (pc' := 41) rfl ?_
    refine g_iload h dX2_lessen_41 rfl (pc' := 43) rfl ?_
    refine g_iload_n (i := 3) h dX2_lessen_43 rfl rfl (pc' := 44) rfl ?_
    refine g_aload_n (i := 0) h dX2_lessen_44 rfl rfl (pc' := 45) rfl ?_
    refine gf_X2_9 h dX2_lessen_45 (pc' := 48) rfl ?_
    refine g_iload h dX2_lessen_48 rfl (pc' := 50) rfl ?_
    refine g_iload_n (i := 3) h dX2_lessen_50 rfl rfl (pc' := 51) rfl ?_
    refine g_callV1 (q0 := 1) h dX2_lessen_51 cf_X2_33 (M_X0_owed (i := ((rs g j) % 10) - 1) (c := pe g j) (by omega) (by omega)) rfl rfl rfl rfl (by decide) rfl (Nat.le_of_ble_eq_true rfl) (pc' := 54) rfl ?_
    refine g_iload_n (i := 2) h dX2_lessen_54 rfl rfl (pc' := 55) rfl ?_
    refine g_isub h dX2_lessen_55 (pc' := 56) rfl ?_
    refine g_callV0 (q0 := 1) h dX2_lessen_56 cf_X2_44 (M_X0_setOwed (i := ((rs g j) % 10) - 1) (c := pe g j) (v := ((ls debt g (lm debt g (sz g)) j) ((((rs g j) % 10) - 1) * 5 + (pe g j))) - (lm debt g (sz g))) (by omega) (by omega)) rfl rfl rfl rfl (by decide) rfl (Nat.le_of_ble_eq_true rfl) (pc' := 59) rfl ?_
    refine g_iload h dX2_lessen_59 rfl (pc' := 61) rfl ?_
    refine g_istore3 h dX2_lessen_61 rfl (by decide) (pc' := 62) rfl ?_
    refine g_iload h dX2_lessen_62 rfl (pc' := 64) rfl ?_
    refine g_bipush (v := nI 10) h dX2_lessen_64 (by decide) (pc' := 66) rfl ?_
    refine g_idivN h dX2_lessen_66 (by omega) (by omega) (by omega) (pc' := 67) rfl ?_
    refine g_istore4 h dX2_lessen_67 rfl (by decide) (pc' := 69) rfl ?_
    refine g_iinc5 (v := nI (j + 1)) h dX2_lessen_69 rfl (inc1 j) (by decide) (pc' := 72) rfl ?_
    refine g_goto (pc' := 18) h dX2_lessen_72 (by decide) ?_
    exact GG.castW ih18 ⟨rfl, rfl, rfl, rfl, rfl, rfl, trivial⟩ rfl rfl
set_option maxRecDepth 20000 in
set_option maxHeartbeats 4000000 in
theorem M_X2_howMany {Z : ZT} {n : Int32} {toll : Int32} {paid : Int32} {coin : Nat → Int32} {debt : Nat → Int32} {fall : Nat → Int32} {shr : Nat → Int64} {mat : Nat → Int64} {rgt : Nat → Int64} {pen : Int32} {last : Int32} {below : Int64}    : MM Z yX2_howMany cX2_howMany 3 (some .int) 3 [.ref (Z.2.2 3)] (wC Z n toll paid coin debt fall shr mat rgt pen last below) (some (.int (nI (hm debt 20)))) (wC Z n toll paid coin debt fall shr mat rgt pen last below) := by
  refine MM.intro (by decide) [some (.ref (Z.2.2 3)), none, none] rfl (Nat.le_of_ble_eq_true rfl) (fun X (h : OK Z X cX2_howMany RX2 3 (rmd 3)) hr => ?_)
  refine g_iconst (v := nI 0) h dX2_howMany_0 (by decide) (pc' := 1) rfl ?_
  refine g_istore1 h dX2_howMany_1 rfl (by decide) (pc' := 2) rfl ?_
  refine g_iconst (v := nI 0) h dX2_howMany_2 (by decide) (pc' := 3) rfl ?_
  refine g_istore2 h dX2_howMany_3 rfl (by decide) (pc' := 4) rfl ?_
  refine GG.castW (lp (P := fun j => GG Z X 4 [some (.ref (Z.2.2 3)), some (.int (nI (hm debt j))), some (.int (nI j))] [] (wC Z n toll paid coin debt fall shr mat rgt pen last below)) 20 ?_ ?_) ⟨rfl, rfl, rfl, trivial⟩ rfl rfl
  · skip
    refine g_iload_n (i := 2) h dX2_howMany_4 rfl rfl (pc' := 5) rfl ?_
    refine g_getAll (mG 354 (by decide +kernel) rfl) h dX2_howMany_5 (pc' := 8) rfl ?_
    refine g_alenAll h dX2_howMany_8 (pc' := 9) rfl ?_
    refine g_icmp_geT (tg := 35) h dX2_howMany_9 (by decide) (Int32.le_refl _) ?_
    refine g_iload_n (i := 1) h dX2_howMany_35 rfl rfl (pc' := 36) rfl ?_
    exact g_iret h hr dX2_howMany_36 rfl rfl
  · intro j hj ih4
    refine g_iload_n (i := 2) h dX2_howMany_4 rfl rfl (pc' := 5) rfl ?_
    refine g_getAll (mG 354 (by decide +kernel) rfl) h dX2_howMany_5 (pc' := 8) rfl ?_
    refine g_alenAll h dX2_howMany_8 (pc' := 9) rfl ?_
    refine g_icmp_geF (tg := 35) h dX2_howMany_9 (by decide) (pc' := 12) rfl (nI_ge hj (by omega)) ?_
    refine g_aload_n (i := 0) h dX2_howMany_12 rfl rfl (pc' := 13) rfl ?_
    refine g_getAll (mG 354 (by decide +kernel) rfl) h dX2_howMany_13 (pc' := 16) rfl ?_
    refine g_iload_n (i := 2) h dX2_howMany_16 rfl rfl (pc' := 17) rfl ?_
    refine g_callN1 h dX2_howMany_17 cf_X2_19 (M_X3_at_allN (k := j) (by omega)) rfl (by decide) rfl (Nat.le_of_ble_eq_true rfl) (pc' := 20) rfl ?_
    refine g_callV1 (q0 := 3) h dX2_howMany_20 cf_X2_23 (M_X2_leastDebt (g := fg j) (ok_fg j hj).1 (ok_fg j hj).2.1 (ok_fg j hj).2.2) rfl rfl rfl rfl (by decide) rfl (Nat.le_of_ble_eq_true rfl) (pc' := 23) rfl ?_
    refine g_if_le (tg := 29) h dX2_howMany_23 (by decide) (pc' := 26) rfl (fun c1 => ?_) (fun c1 => ?_)
    · skip
      refine g_iinc2 (v := nI (j + 1)) h dX2_howMany_29 rfl (inc1 j) (by decide) (pc' := 32) rfl ?_
      refine g_goto (pc' := 4) h dX2_howMany_32 (by decide) ?_
      exact GG.castW ih4 ⟨rfl, (by simp only [List.head?_cons, List.tail_cons, hm, if_pos c1]), rfl, trivial⟩ rfl rfl
    · skip
      refine g_iinc1 (v := nI (hm debt j + 1)) h dX2_howMany_26 rfl (inc1 (hm debt j)) (by decide) (pc' := 29) rfl ?_
      refine g_iinc2 (v := nI (j + 1)) h dX2_howMany_29 rfl (inc1 j) (by decide) (pc' := 32) rfl ?_
      refine g_goto (pc' := 4) h dX2_howMany_32 (by decide) ?_
      exact GG.castW ih4 ⟨rfl, (by simp only [List.head?_cons, List.tail_cons, hm, if_neg c1]), rfl, trivial⟩ rfl rfl
set_option maxRecDepth 20000 in
set_option maxHeartbeats 4000000 in
theorem M_X2_figuresOf {Z : ZT} {n : Int32} {toll : Int32} {paid : Int32} {coin : Nat → Int32} {debt : Nat → Int32} {fall : Nat → Int32} {shr : Nat → Int64} {mat : Nat → Int64} {rgt : Nat → Int64} {pen : Int32} {last : Int32} {below : Int64} {q : Int32}   : MM Z yX2_figuresOf cX2_figuresOf 5 (some .int) 3 [.ref (Z.2.2 3), .int q] (wC Z n toll paid coin debt fall shr mat rgt pen last below) (some (.int (fgo debt q 20 0 0))) (wC Z n toll paid coin debt fall shr mat rgt pen last below) := by
  refine MM.intro (by decide) [some (.ref (Z.2.2 3)), some (.int q), none, none, none] rfl (Nat.le_of_ble_eq_true rfl) (fun X (h : OK Z X cX2_figuresOf RX2 5 (rmd 3)) hr => ?_)
  refine g_iconst (v := nI 0) h dX2_figuresOf_0 (by decide) (pc' := 1) rfl ?_
  refine g_istore2 h dX2_figuresOf_1 rfl (by decide) (pc' := 2) rfl ?_
  refine g_iconst (v := nI 0) h dX2_figuresOf_2 (by decide) (pc' := 3) rfl ?_
  refine g_istore3 h dX2_figuresOf_3 rfl (by decide) (pc' := 4) rfl ?_
  have key4 : ∀ (k : Nat) (j f : Nat), (j + k = 20) → (fgo debt q 20 0 0 = fgo debt q k j f) → GG Z X 4 [some (.ref (Z.2.2 3)), some (.int q), some (.int (nI f)), some (.int (nI j)), none] [] (wC Z n toll paid coin debt fall shr mat rgt pen last below) := by
    intro k
    induction k with
    | zero =>
      intro j f e4_0 e4_1
      refine g_iload_n (i := 3) h dX2_figuresOf_4 rfl rfl (pc' := 5) rfl ?_
      refine g_getAll (mG 354 (by decide +kernel) rfl) h dX2_figuresOf_5 (pc' := 8) rfl ?_
      refine g_alenAll h dX2_figuresOf_8 (pc' := 9) rfl ?_
      refine g_icmp_geT (tg := 47) h dX2_figuresOf_9 (by decide) (by rw [show j = 20 by omega]; exact Int32.le_refl _) ?_
      refine g_iconst (v := (-1)) h dX2_figuresOf_47 (by decide) (pc' := 48) rfl ?_
      exact g_iret h hr dX2_figuresOf_48 (by rw [e4_1]; rfl) rfl
    | succ k ih4 =>
      intro j f e4_0 e4_1
      have hj : j < 20 := by omega
      refine g_iload_n (i := 3) h dX2_figuresOf_4 rfl rfl (pc' := 5) rfl ?_
      refine g_getAll (mG 354 (by decide +kernel) rfl) h dX2_figuresOf_5 (pc' := 8) rfl ?_
      refine g_alenAll h dX2_figuresOf_8 (pc' := 9) rfl ?_
      refine g_icmp_geF (tg := 47) h dX2_figuresOf_9 (by decide) (pc' := 12) rfl (nI_ge hj (by decide)) ?_
      refine g_getAll (mG 354 (by decide +kernel) rfl) h dX2_figuresOf_12 (pc' := 15) rfl ?_
      refine g_iload_n (i := 3) h dX2_figuresOf_15 rfl rfl (pc' := 16) rfl ?_
      refine g_callN1 h dX2_figuresOf_16 cf_X2_19 (M_X3_at_allN (k := j) (by omega)) rfl (by decide) rfl (Nat.le_of_ble_eq_true rfl) (pc' := 19) rfl ?_
      refine g_istore4 h dX2_figuresOf_19 rfl (by decide) (pc' := 21) rfl ?_
      refine g_aload_n (i := 0) h dX2_figuresOf_21 rfl rfl (pc' := 22) rfl ?_
      refine g_iload h dX2_figuresOf_22 rfl (pc' := 24) rfl ?_
      refine g_callV1 (q0 := 3) h dX2_figuresOf_24 cf_X2_23 (M_X2_leastDebt (g := fg j) (ok_fg j hj).1 (ok_fg j hj).2.1 (ok_fg j hj).2.2) rfl rfl rfl rfl (by decide) rfl (Nat.le_of_ble_eq_true rfl) (pc' := 27) rfl ?_
      refine g_if_le (tg := 41) h dX2_figuresOf_27 (by decide) (pc' := 30) rfl (fun c1 => ?_) (fun c1 => ?_)
      · skip
        refine g_iinc3 (v := nI (j + 1)) h dX2_figuresOf_41 rfl (inc1 j) (by decide) (pc' := 44) rfl ?_
        refine g_goto (pc' := 4) h dX2_figuresOf_44 (by decide) ?_
        exact GG.castW (ih4 (j + 1) f (by omega) (by rw [e4_1, fgo, if_pos c1])) ⟨rfl, rfl, rfl, rfl, trivial⟩ rfl rfl
      · skip
        refine g_iload_n (i := 2) h dX2_figuresOf_30 rfl rfl (pc' := 31) rfl ?_
        refine g_iload_n (i := 1) h dX2_figuresOf_31 rfl rfl (pc' := 32) rfl ?_
        refine g_icmp_ne (tg := 38) h dX2_figuresOf_32 (by decide) (pc' := 35) rfl (fun c2 => ?_) (fun c2 => ?_)
        · skip
          refine g_iinc2 (v := nI (f + 1)) h dX2_figuresOf_38 rfl (inc1 f) (by decide) (pc' := 41) rfl ?_
          refine g_iinc3 (v := nI (j + 1)) h dX2_figuresOf_41 rfl (inc1 j) (by decide) (pc' := 44) rfl ?_
          refine g_goto (pc' := 4) h dX2_figuresOf_44 (by decide) ?_
          exact GG.castW (ih4 (j + 1) (f + 1) (by omega) (by rw [e4_1, fgo, if_neg c1, if_neg c2])) ⟨rfl, rfl, rfl, rfl, trivial⟩ rfl rfl
        · skip
          refine g_iload h dX2_figuresOf_35 rfl (pc' := 37) rfl ?_
          exact g_iret h hr dX2_figuresOf_37 (by rw [e4_1, fgo, if_neg c1, if_pos c2]) rfl
  exact GG.castW (key4 20 0 0 rfl rfl) ⟨rfl, rfl, rfl, rfl, trivial⟩ rfl rfl
end
section
theorem hsO {i m : Nat} (h : i < m) (hm : m ≤ 4) : ¬ nI i < 0 ∧ ¬ nI m ≤ nI i := ⟨nI_pos (by omega), nI_ge h (by omega)⟩
theorem hpO {j m : Nat} (h : j ≤ m) (hm : m ≤ 4) : ¬ nI j < 0 ∧ ¬ nI m < nI j := ⟨nI_pos (by omega), nI_nlt h (by omega)⟩
def cm (m j : Nat) : Nat := if j = m then 4 else j
theorem col_lt {m j : Nat} (h : j ≤ m) (hm : m ≤ 4) : cm m j < 5 := by unfold cm; split <;> omega
theorem col_eq {m j : Nat} (h : j ≤ m) (hm : m ≤ 4) : (if nI j = nI m then nI 4 else nI j) = nI (cm m j) := by
  unfold cm
  by_cases e : j = m
  · rw [if_pos e, if_pos (by rw [e])]
  · rw [if_neg e, if_neg (fun q => e ((nI_eq (by omega) (by omega)).mp q))]
theorem M_X0_columnOf_N {Z : ZT} {m : Nat} {toll : Int32} {paid : Int32} {coin : Nat → Int32} {debt : Nat → Int32} {fall : Nat → Int32} {shr : Nat → Int64} {mat : Nat → Int64} {rgt : Nat → Int64} {pen : Int32} {last : Int32} {below : Int64} {i : Nat} (g0 : i ≤ m) (g1 : m ≤ 4) : MM Z yX0_columnOf cX0_columnOf 2 (some .int) 0 [.ref (Z.2.2 1), .int (nI i)] (wC Z (nI m) toll paid coin debt fall shr mat rgt pen last below) (some (.int (nI (cm m i)))) (wC Z (nI m) toll paid coin debt fall shr mat rgt pen last below) := by
  rw [← col_eq g0 g1]
  exact M_X0_columnOf
def frk (debt : Nat → Int32) : Nat → Nat → Option Nat
  | 0, _ => none
  | k + 1, j => if lm debt (fg j) (sz (fg j)) ≤ 0 then frk debt k (j + 1) else some j
/-- the first ring -/
def fr (debt : Nat → Int32) : Option Nat := frk debt 20 0
theorem frk_lt {debt : Nat → Int32} : ∀ {k j q : Nat}, frk debt k j = some q → j ≤ q ∧ q < j + k
  | 0, j, q, h => by simp [frk] at h
  | k + 1, j, q, h => by
    rw [frk] at h
    split at h
    · have := frk_lt h
      omega
    · cases h
      omega
theorem fr_lt {debt : Nat → Int32} {q : Nat} (h : fr debt = some q) : q < 20 := by have := frk_lt h; omega
theorem fgo_0 {debt : Nat → Int32} : ∀ {k j : Nat}, fgo debt (nI 0) k j 0 = match frk debt k j with | none => (-1) | some q => nI (fg q)
  | 0, j => rfl
  | k + 1, j => by
    rw [fgo, frk]
    by_cases h : lm debt (fg j) (sz (fg j)) ≤ 0
    · rw [if_pos h, if_pos h]
      exact fgo_0
    · rw [if_neg h, if_neg h, if_pos rfl]
def caC : Nat → (Nat → Int32) → Int32 → Int32 × (Nat → Int32)
  | 0, d, a => (a, d)
  | k + 1, d, a => match fr d with
    | none => (a, d)
    | some q => caC k (ls d (fg q) (lm d (fg q) (sz (fg q))) (sz (fg q))) (a + nI (sz (fg q)) * lm d (fg q) (sz (fg q)))
theorem caC_none {k : Nat} {d : Nat → Int32} {a : Int32} (h : fr d = none) : caC (k + 1) d a = (a, d) := by rw [caC, h]
theorem caC_some {k q : Nat} {d : Nat → Int32} {a : Int32} (h : fr d = some q) : caC (k + 1) d a = caC k (ls d (fg q) (lm d (fg q) (sz (fg q))) (sz (fg q))) (a + nI (sz (fg q)) * lm d (fg q) (sz (fg q))) := by rw [caC, h]
abbrev sT : Type := Int32 × (Nat → Int32) × (Nat → Int32)
def dyl : Nat → Nat → sT → Nat × sT
  | 0, c, s => (c, s)
  | k + 1, c, s => if nI (pDay 4 (0, s.1, s.2.1, s.2.2)).1 ≤ 0 then (c, (pDay 4 (0, s.1, s.2.1, s.2.2)).2) else dyl k (c + 1) (pDay 4 (0, s.1, s.2.1, s.2.2)).2
abbrev bC (coin debt : Nat → Int32) (s : Int32 × Int32) (i : Nat) : Prop := ¬ hN coin debt i = (-1) ∧ (s.1 = (-1) ∨ ¬ s.2 ≤ hN coin debt i)
def bB (coin debt : Nat → Int32) : Nat → Int32 × Int32
  | 0 => (-1, -1)
  | i + 1 => if bC coin debt (bB coin debt i) i then (nI i, hN coin debt i) else bB coin debt i
def dg1 (debt : Nat → Int32) (i : Nat) (h : Int64) : Nat → Int64
  | 0 => h
  | j + 1 => 31 * dg1 debt i h j + (debt (i * 5 + j)).toInt64
def dg2 (m : Nat) (coin debt : Nat → Int32) (h : Int64) : Nat → Int64
  | 0 => h
  | i + 1 => 31 * dg1 debt i (31 * dg2 m coin debt h i + (coin i).toInt64) m + (debt (i * 5 + 4)).toInt64
def dg3 (q : cT) (h : Int64) : Nat → Int64
  | 0 => h
  | i + 1 => 31 * (31 * (31 * dg3 q h i + (q.1 i).toInt64) + lT (q.2.1 i) q.2.2.2.2.2 (nI 0)) + lT (q.2.1 i) q.2.2.2.2.2 (nI 1)
theorem M_X2_fig_none {Z : ZT} {n : Int32} {toll : Int32} {paid : Int32} {coin : Nat → Int32} {debt : Nat → Int32} {fall : Nat → Int32} {shr : Nat → Int64} {mat : Nat → Int64} {rgt : Nat → Int64} {pen : Int32} {last : Int32} {below : Int64} (g0 : fr debt = none) : MM Z yX2_figuresOf cX2_figuresOf 5 (some .int) 3 [.ref (Z.2.2 3), .int (nI 0)] (wC Z n toll paid coin debt fall shr mat rgt pen last below) (some (.int ((-1)))) (wC Z n toll paid coin debt fall shr mat rgt pen last below) := by
  have e : fgo debt (nI 0) 20 0 0 = (-1) := by rw [fgo_0]; show (match fr debt with | none => (-1) | some q => nI (fg q)) = _; rw [g0]
  rw [← e]
  exact M_X2_figuresOf
theorem M_X2_fig_some {Z : ZT} {n : Int32} {toll : Int32} {paid : Int32} {coin : Nat → Int32} {debt : Nat → Int32} {fall : Nat → Int32} {shr : Nat → Int64} {mat : Nat → Int64} {rgt : Nat → Int64} {pen : Int32} {last : Int32} {below : Int64} {q : Nat} (g0 : fr debt = some q) : MM Z yX2_figuresOf cX2_figuresOf 5 (some .int) 3 [.ref (Z.2.2 3), .int (nI 0)] (wC Z n toll paid coin debt fall shr mat rgt pen last below) (some (.int (nI (fg q)))) (wC Z n toll paid coin debt fall shr mat rgt pen last below) := by
  have e : fgo debt (nI 0) 20 0 0 = nI (fg q) := by rw [fgo_0]; show (match fr debt with | none => (-1) | some q => nI (fg q)) = _; rw [g0]
  rw [← e]
  exact M_X2_figuresOf
set_option maxRecDepth 20000 in
set_option maxHeartbeats 4000000 in
theorem M_houses_O {Z : ZT} {n : Int32} {toll : Int32} {paid : Int32} {coin : Nat → Int32} {debt : Nat → Int32} {fall : Nat → Int32} {shr : Nat → Int64} {mat : Nat → Int64} {rgt : Nat → Int64} {pen : Int32} {last : Int32} {below : Int64} {v : Int32}  (g0 : v < nI 1 ∨ nI 4 < v) : MM Z yX3_houses cX3_houses 2 (some .int) 2 [.ref (Z.2.2 0), .int v] (wC Z n toll paid coin debt fall shr mat rgt pen last below) (some (.int (-102))) (wC Z n toll paid coin debt fall shr mat rgt pen last below) := by
  refine MM.intro (by decide) [some (.ref (Z.2.2 0)), some (.int v)] rfl (Nat.le_of_ble_eq_true rfl) (fun X (h : OK Z X cX3_houses RX3 2 (rmd 2)) hr => ?_)
  refine g_iload_n (i := 1) h dX3_houses_0 rfl rfl (pc' := 1) rfl ?_
  refine g_iconst (v := nI 1) h dX3_houses_1 (by decide) (pc' := 2) rfl ?_
  refine g_icmp_lt (tg := 10) h dX3_houses_2 (by decide) (pc' := 5) rfl (fun c1 => ?_) (fun c1 => ?_)
  · skip
    refine g_bipush (v := (-102)) h dX3_houses_10 (by decide) (pc' := 12) rfl ?_
    exact g_iret h hr dX3_houses_12 (by first | rfl | simp only [if_pos c1] | simp [c1]) rfl
  · skip
    refine g_iload_n (i := 1) h dX3_houses_5 rfl rfl (pc' := 6) rfl ?_
    refine g_iconst (v := nI 4) h dX3_houses_6 (by decide) (pc' := 7) rfl ?_
    refine g_icmp_le (tg := 13) h dX3_houses_7 (by decide) (pc' := 10) rfl (fun c2 => ?_) (fun c2 => ?_)
    · skip
      exact absurd g0 (fun q => by rcases q with q | q; exact c1 q; exact Int32.not_lt.mpr c2 q)
    · skip
      refine g_bipush (v := (-102)) h dX3_houses_10 (by decide) (pc' := 12) rfl ?_
      exact g_iret h hr dX3_houses_12 (by first | rfl | simp only [if_neg c1, if_neg c2] | simp [c1, c2]) rfl
set_option maxRecDepth 20000 in
set_option maxHeartbeats 4000000 in
theorem M_houses {Z : ZT} {n : Int32} {toll : Int32} {paid : Int32} {coin : Nat → Int32} {debt : Nat → Int32} {fall : Nat → Int32} {shr : Nat → Int64} {mat : Nat → Int64} {rgt : Nat → Int64} {pen : Int32} {last : Int32} {below : Int64} {v : Nat}  (g0 : 1 ≤ v) (g1 : v ≤ 4) : MM Z yX3_houses cX3_houses 2 (some .int) 2 [.ref (Z.2.2 0), .int (nI v)] (wC Z n toll paid coin debt fall shr mat rgt pen last below) (some (.int (nI v))) (wC Z (nI v) (nI 0) (nI 0) (zf coin 4) (zf debt 20) fall shr mat rgt pen last below) := by
  refine MM.intro (by decide) [some (.ref (Z.2.2 0)), some (.int (nI v))] rfl (Nat.le_of_ble_eq_true rfl) (fun X (h : OK Z X cX3_houses RX3 2 (rmd 2)) hr => ?_)
  refine g_iload_n (i := 1) h dX3_houses_0 rfl rfl (pc' := 1) rfl ?_
  refine g_iconst (v := nI 1) h dX3_houses_1 (by decide) (pc' := 2) rfl ?_
  refine g_icmp_ltF (tg := 10) h dX3_houses_2 (by decide) (pc' := 5) rfl (nI_nlt g0 (by omega)) ?_
  refine g_iload_n (i := 1) h dX3_houses_5 rfl rfl (pc' := 6) rfl ?_
  refine g_iconst (v := nI 4) h dX3_houses_6 (by decide) (pc' := 7) rfl ?_
  refine g_icmp_leT (tg := 13) h dX3_houses_7 (by decide) (nI_le g1 (by omega)) ?_
  refine g_aload_n (i := 0) h dX3_houses_13 rfl rfl (pc' := 14) rfl ?_
  refine gf_X3_10 h dX3_houses_14 (pc' := 17) rfl ?_
  refine g_iload_n (i := 1) h dX3_houses_17 rfl rfl (pc' := 18) rfl ?_
  refine g_callV0 (q0 := 1) h dX3_houses_18 cf_X3_32 (M_X0_open (m := nI v) ) rfl rfl rfl rfl (by decide) rfl (Nat.le_of_ble_eq_true rfl) (pc' := 21) rfl ?_
  refine g_iload_n (i := 1) h dX3_houses_21 rfl rfl (pc' := 22) rfl ?_
  exact g_iret h hr dX3_houses_22 rfl rfl
set_option maxRecDepth 20000 in
set_option maxHeartbeats 4000000 in
theorem M_cash_U {Z : ZT} {m : Nat} {toll : Int32} {paid : Int32} {coin : Nat → Int32} {debt : Nat → Int32} {fall : Nat → Int32} {shr : Nat → Int64} {mat : Nat → Int64} {rgt : Nat → Int64} {pen : Int32} {last : Int32} {below : Int64} {i : Int32} {v : Int32}  (g0 : ¬ (¬ i < 0 ∧ ¬ nI m ≤ i)) : MM Z yX3_cash cX3_cash 4 (some .int) 2 [.ref (Z.2.2 0), .int i, .int v] (wC Z (nI m) toll paid coin debt fall shr mat rgt pen last below) (some (.int (-101))) (wC Z (nI m) toll paid coin debt fall shr mat rgt pen last below) := by
  refine MM.intro (by decide) [some (.ref (Z.2.2 0)), some (.int i), some (.int v), none] rfl (Nat.le_of_ble_eq_true rfl) (fun X (h : OK Z X cX3_cash RX3 4 (rmd 2)) hr => ?_)
  refine g_aload_n (i := 0) h dX3_cash_0 rfl rfl (pc' := 1) rfl ?_
  refine gf_X3_10 h dX3_cash_1 (pc' := 4) rfl ?_
  refine g_iload_n (i := 1) h dX3_cash_4 rfl rfl (pc' := 5) rfl ?_
  refine g_callV1 (q0 := 1) h dX3_cash_5 cf_X3_36 (M_X0_isHouse (i := i) ) rfl rfl rfl rfl (by decide) rfl (Nat.le_of_ble_eq_true rfl) (pc' := 8) rfl ?_
  refine g_if_neF (tg := 14) h dX3_cash_8 (by decide) (pc' := 11) rfl (bI_n g0) ?_
  refine g_bipush (v := (-101)) h dX3_cash_11 (by decide) (pc' := 13) rfl ?_
  exact g_iret h hr dX3_cash_13 rfl rfl
set_option maxRecDepth 20000 in
set_option maxHeartbeats 4000000 in
theorem M_cash_O {Z : ZT} {m : Nat} {toll : Int32} {paid : Int32} {coin : Nat → Int32} {debt : Nat → Int32} {fall : Nat → Int32} {shr : Nat → Int64} {mat : Nat → Int64} {rgt : Nat → Int64} {pen : Int32} {last : Int32} {below : Int64} {i : Nat} {v : Int32}  (g0 : i < m) (g1 : m ≤ 4) (g2 : v < 0 ∨ ¬ v ≤ nI 1000) : MM Z yX3_cash cX3_cash 4 (some .int) 2 [.ref (Z.2.2 0), .int (nI i), .int v] (wC Z (nI m) toll paid coin debt fall shr mat rgt pen last below) (some (.int (-102))) (wC Z (nI m) toll paid coin debt fall shr mat rgt pen last below) := by
  refine MM.intro (by decide) [some (.ref (Z.2.2 0)), some (.int (nI i)), some (.int v), none] rfl (Nat.le_of_ble_eq_true rfl) (fun X (h : OK Z X cX3_cash RX3 4 (rmd 2)) hr => ?_)
  refine g_aload_n (i := 0) h dX3_cash_0 rfl rfl (pc' := 1) rfl ?_
  refine gf_X3_10 h dX3_cash_1 (pc' := 4) rfl ?_
  refine g_iload_n (i := 1) h dX3_cash_4 rfl rfl (pc' := 5) rfl ?_
  refine g_callV1 (q0 := 1) h dX3_cash_5 cf_X3_36 (M_X0_isHouse (i := nI i) ) rfl rfl rfl rfl (by decide) rfl (Nat.le_of_ble_eq_true rfl) (pc' := 8) rfl ?_
  refine g_if_neT (tg := 14) h dX3_cash_8 (by decide) (fun q => (bI_0.mp q) (hsO g0 g1)) ?_
  refine g_iload_n (i := 2) h dX3_cash_14 rfl rfl (pc' := 15) rfl ?_
  refine g_if_lt (tg := 25) h dX3_cash_15 (by decide) (pc' := 18) rfl (fun c1 => ?_) (fun c1 => ?_)
  · skip
    refine g_bipush (v := (-102)) h dX3_cash_25 (by decide) (pc' := 27) rfl ?_
    exact g_iret h hr dX3_cash_27 (by first | rfl | simp only [if_pos c1] | simp [c1]) rfl
  · skip
    refine g_iload_n (i := 2) h dX3_cash_18 rfl rfl (pc' := 19) rfl ?_
    refine g_sipush (v := nI 1000) h dX3_cash_19 (by decide) (pc' := 22) rfl ?_
    refine g_icmp_le (tg := 28) h dX3_cash_22 (by decide) (pc' := 25) rfl (fun c2 => ?_) (fun c2 => ?_)
    · skip
      exact absurd g2 (fun q => by rcases q with q | q; exact c1 q; exact q c2)
    · skip
      refine g_bipush (v := (-102)) h dX3_cash_25 (by decide) (pc' := 27) rfl ?_
      exact g_iret h hr dX3_cash_27 (by first | rfl | simp only [if_neg c1, if_neg c2] | simp [c1, c2]) rfl
set_option maxRecDepth 20000 in
set_option maxHeartbeats 4000000 in
theorem M_cash {Z : ZT} {m : Nat} {toll : Int32} {paid : Int32} {coin : Nat → Int32} {debt : Nat → Int32} {fall : Nat → Int32} {shr : Nat → Int64} {mat : Nat → Int64} {rgt : Nat → Int64} {pen : Int32} {last : Int32} {below : Int64} {i : Nat} {v : Int32}  (g0 : i < m) (g1 : m ≤ 4) (g2 : ¬ v < 0) (g3 : v ≤ nI 1000) : MM Z yX3_cash cX3_cash 4 (some .int) 2 [.ref (Z.2.2 0), .int (nI i), .int v] (wC Z (nI m) toll paid coin debt fall shr mat rgt pen last below) (some (.int (coin i))) (wC Z (nI m) toll paid (upd coin i v) debt fall shr mat rgt pen last below) := by
  refine MM.intro (by decide) [some (.ref (Z.2.2 0)), some (.int (nI i)), some (.int v), none] rfl (Nat.le_of_ble_eq_true rfl) (fun X (h : OK Z X cX3_cash RX3 4 (rmd 2)) hr => ?_)
  refine g_aload_n (i := 0) h dX3_cash_0 rfl rfl (pc' := 1) rfl ?_
  refine gf_X3_10 h dX3_cash_1 (pc' := 4) rfl ?_
  refine g_iload_n (i := 1) h dX3_cash_4 rfl rfl (pc' := 5) rfl ?_
  refine g_callV1 (q0 := 1) h dX3_cash_5 cf_X3_36 (M_X0_isHouse (i := nI i) ) rfl rfl rfl rfl (by decide) rfl (Nat.le_of_ble_eq_true rfl) (pc' := 8) rfl ?_
  refine g_if_neT (tg := 14) h dX3_cash_8 (by decide) (fun q => (bI_0.mp q) (hsO g0 g1)) ?_
  refine g_iload_n (i := 2) h dX3_cash_14 rfl rfl (pc' := 15) rfl ?_
  refine g_if_ltF (tg := 25) h dX3_cash_15 (by decide) (pc' := 18) rfl g2 ?_
  refine g_iload_n (i := 2) h dX3_cash_18 rfl rfl (pc' := 19) rfl ?_
  refine g_sipush (v := nI 1000) h dX3_cash_19 (by decide) (pc' := 22) rfl ?_
  refine g_icmp_leT (tg := 28) h dX3_cash_22 (by decide) g3 ?_
  refine g_aload_n (i := 0) h dX3_cash_28 rfl rfl (pc' := 29) rfl ?_
  refine gf_X3_10 h dX3_cash_29 (pc' := 32) rfl ?_
  refine g_iload_n (i := 1) h dX3_cash_32 rfl rfl (pc' := 33) rfl ?_
  refine g_callV1 (q0 := 1) h dX3_cash_33 cf_X3_40 (M_X0_coins (i := i) (by omega)) rfl rfl rfl rfl (by decide) rfl (Nat.le_of_ble_eq_true rfl) (pc' := 36) rfl ?_
  refine g_istore3 h dX3_cash_36 rfl (by decide) (pc' := 37) rfl ?_
  refine g_aload_n (i := 0) h dX3_cash_37 rfl rfl (pc' := 38) rfl ?_
  refine gf_X3_10 h dX3_cash_38 (pc' := 41) rfl ?_
  refine g_iload_n (i := 1) h dX3_cash_41 rfl rfl (pc' := 42) rfl ?_
  refine g_iload_n (i := 2) h dX3_cash_42 rfl rfl (pc' := 43) rfl ?_
  refine g_callV0 (q0 := 1) h dX3_cash_43 cf_X3_44 (M_X0_setCoins (i := i) (v := v) (by omega)) rfl rfl rfl rfl (by decide) rfl (Nat.le_of_ble_eq_true rfl) (pc' := 46) rfl ?_
  refine g_iload_n (i := 3) h dX3_cash_46 rfl rfl (pc' := 47) rfl ?_
  exact g_iret h hr dX3_cash_47 rfl rfl
set_option maxRecDepth 20000 in
set_option maxHeartbeats 4000000 in
theorem M_owe_U {Z : ZT} {m : Nat} {toll : Int32} {paid : Int32} {coin : Nat → Int32} {debt : Nat → Int32} {fall : Nat → Int32} {shr : Nat → Int64} {mat : Nat → Int64} {rgt : Nat → Int64} {pen : Int32} {last : Int32} {below : Int64} {i : Int32} {j : Int32} {v : Int32}  (g0 : ¬ (¬ i < 0 ∧ ¬ nI m ≤ i)) : MM Z yX3_owe cX3_owe 6 (some .int) 2 [.ref (Z.2.2 0), .int i, .int j, .int v] (wC Z (nI m) toll paid coin debt fall shr mat rgt pen last below) (some (.int (-101))) (wC Z (nI m) toll paid coin debt fall shr mat rgt pen last below) := by
  refine MM.intro (by decide) [some (.ref (Z.2.2 0)), some (.int i), some (.int j), some (.int v), none, none] rfl (Nat.le_of_ble_eq_true rfl) (fun X (h : OK Z X cX3_owe RX3 6 (rmd 2)) hr => ?_)
  refine g_aload_n (i := 0) h dX3_owe_0 rfl rfl (pc' := 1) rfl ?_
  refine gf_X3_10 h dX3_owe_1 (pc' := 4) rfl ?_
  refine g_iload_n (i := 1) h dX3_owe_4 rfl rfl (pc' := 5) rfl ?_
  refine g_callV1 (q0 := 1) h dX3_owe_5 cf_X3_36 (M_X0_isHouse (i := i) ) rfl rfl rfl rfl (by decide) rfl (Nat.le_of_ble_eq_true rfl) (pc' := 8) rfl ?_
  refine g_if_eqT (tg := 22) h dX3_owe_8 (by decide) (bI_n g0) ?_
  refine g_bipush (v := (-101)) h dX3_owe_22 (by decide) (pc' := 24) rfl ?_
  exact g_iret h hr dX3_owe_24 rfl rfl
set_option maxRecDepth 20000 in
set_option maxHeartbeats 4000000 in
theorem M_owe_UP {Z : ZT} {m : Nat} {toll : Int32} {paid : Int32} {coin : Nat → Int32} {debt : Nat → Int32} {fall : Nat → Int32} {shr : Nat → Int64} {mat : Nat → Int64} {rgt : Nat → Int64} {pen : Int32} {last : Int32} {below : Int64} {i : Nat} {j : Int32} {v : Int32}  (g0 : i < m) (g1 : m ≤ 4) (g2 : ¬ (¬ j < 0 ∧ ¬ nI m < j)) : MM Z yX3_owe cX3_owe 6 (some .int) 2 [.ref (Z.2.2 0), .int (nI i), .int j, .int v] (wC Z (nI m) toll paid coin debt fall shr mat rgt pen last below) (some (.int (-101))) (wC Z (nI m) toll paid coin debt fall shr mat rgt pen last below) := by
  refine MM.intro (by decide) [some (.ref (Z.2.2 0)), some (.int (nI i)), some (.int j), some (.int v), none, none] rfl (Nat.le_of_ble_eq_true rfl) (fun X (h : OK Z X cX3_owe RX3 6 (rmd 2)) hr => ?_)
  refine g_aload_n (i := 0) h dX3_owe_0 rfl rfl (pc' := 1) rfl ?_
  refine gf_X3_10 h dX3_owe_1 (pc' := 4) rfl ?_
  refine g_iload_n (i := 1) h dX3_owe_4 rfl rfl (pc' := 5) rfl ?_
  refine g_callV1 (q0 := 1) h dX3_owe_5 cf_X3_36 (M_X0_isHouse (i := nI i) ) rfl rfl rfl rfl (by decide) rfl (Nat.le_of_ble_eq_true rfl) (pc' := 8) rfl ?_
  refine g_if_eqF (tg := 22) h dX3_owe_8 (by decide) (pc' := 11) rfl (fun q => (bI_0.mp q) (hsO g0 g1)) ?_
  refine g_aload_n (i := 0) h dX3_owe_11 rfl rfl (pc' := 12) rfl ?_
  refine gf_X3_10 h dX3_owe_12 (pc' := 15) rfl ?_
  refine g_iload_n (i := 2) h dX3_owe_15 rfl rfl (pc' := 16) rfl ?_
  refine g_callV1 (q0 := 1) h dX3_owe_16 cf_X3_48 (M_X0_isPayee (i := j) ) rfl rfl rfl rfl (by decide) rfl (Nat.le_of_ble_eq_true rfl) (pc' := 19) rfl ?_
  refine g_if_neF (tg := 25) h dX3_owe_19 (by decide) (pc' := 22) rfl (bI_n g2) ?_
  refine g_bipush (v := (-101)) h dX3_owe_22 (by decide) (pc' := 24) rfl ?_
  exact g_iret h hr dX3_owe_24 rfl rfl
set_option maxRecDepth 20000 in
set_option maxHeartbeats 4000000 in
theorem M_owe_O {Z : ZT} {m : Nat} {toll : Int32} {paid : Int32} {coin : Nat → Int32} {debt : Nat → Int32} {fall : Nat → Int32} {shr : Nat → Int64} {mat : Nat → Int64} {rgt : Nat → Int64} {pen : Int32} {last : Int32} {below : Int64} {i : Nat} {j : Nat} {v : Int32}  (g0 : i < m) (g1 : m ≤ 4) (g2 : j ≤ m) (g3 : v < 0 ∨ nI 50 < v ∨ i = j) : MM Z yX3_owe cX3_owe 6 (some .int) 2 [.ref (Z.2.2 0), .int (nI i), .int (nI j), .int v] (wC Z (nI m) toll paid coin debt fall shr mat rgt pen last below) (some (.int (-102))) (wC Z (nI m) toll paid coin debt fall shr mat rgt pen last below) := by
  refine MM.intro (by decide) [some (.ref (Z.2.2 0)), some (.int (nI i)), some (.int (nI j)), some (.int v), none, none] rfl (Nat.le_of_ble_eq_true rfl) (fun X (h : OK Z X cX3_owe RX3 6 (rmd 2)) hr => ?_)
  refine g_aload_n (i := 0) h dX3_owe_0 rfl rfl (pc' := 1) rfl ?_
  refine gf_X3_10 h dX3_owe_1 (pc' := 4) rfl ?_
  refine g_iload_n (i := 1) h dX3_owe_4 rfl rfl (pc' := 5) rfl ?_
  refine g_callV1 (q0 := 1) h dX3_owe_5 cf_X3_36 (M_X0_isHouse (i := nI i) ) rfl rfl rfl rfl (by decide) rfl (Nat.le_of_ble_eq_true rfl) (pc' := 8) rfl ?_
  refine g_if_eqF (tg := 22) h dX3_owe_8 (by decide) (pc' := 11) rfl (fun q => (bI_0.mp q) (hsO g0 g1)) ?_
  refine g_aload_n (i := 0) h dX3_owe_11 rfl rfl (pc' := 12) rfl ?_
  refine gf_X3_10 h dX3_owe_12 (pc' := 15) rfl ?_
  refine g_iload_n (i := 2) h dX3_owe_15 rfl rfl (pc' := 16) rfl ?_
  refine g_callV1 (q0 := 1) h dX3_owe_16 cf_X3_48 (M_X0_isPayee (i := nI j) ) rfl rfl rfl rfl (by decide) rfl (Nat.le_of_ble_eq_true rfl) (pc' := 19) rfl ?_
  refine g_if_neT (tg := 25) h dX3_owe_19 (by decide) (fun q => (bI_0.mp q) (hpO g2 g1)) ?_
  refine g_iload_n (i := 3) h dX3_owe_25 rfl rfl (pc' := 26) rfl ?_
  refine g_if_lt (tg := 40) h dX3_owe_26 (by decide) (pc' := 29) rfl (fun c1 => ?_) (fun c1 => ?_)
  · skip
    refine g_bipush (v := (-102)) h dX3_owe_40 (by decide) (pc' := 42) rfl ?_
    exact g_iret h hr dX3_owe_42 (by first | rfl | simp only [if_pos c1] | simp [c1]) rfl
  · skip
    refine g_iload_n (i := 3) h dX3_owe_29 rfl rfl (pc' := 30) rfl ?_
    refine g_bipush (v := nI 50) h dX3_owe_30 (by decide) (pc' := 32) rfl ?_
    refine g_icmp_gt (tg := 40) h dX3_owe_32 (by decide) (pc' := 35) rfl (fun c2 => ?_) (fun c2 => ?_)
    · skip
      refine g_bipush (v := (-102)) h dX3_owe_40 (by decide) (pc' := 42) rfl ?_
      exact g_iret h hr dX3_owe_42 (by first | rfl | simp only [if_neg c1, if_pos c2] | simp [c1, c2]) rfl
    · skip
      refine g_iload_n (i := 1) h dX3_owe_35 rfl rfl (pc' := 36) rfl ?_
      refine g_iload_n (i := 2) h dX3_owe_36 rfl rfl (pc' := 37) rfl ?_
      refine g_icmp_ne (tg := 43) h dX3_owe_37 (by decide) (pc' := 40) rfl (fun c3 => ?_) (fun c3 => ?_)
      · skip
        exact absurd g3 (fun q => by rcases q with q | q | q; exact c1 q; exact c2 q; exact c3 (by rw [q]))
      · skip
        refine g_bipush (v := (-102)) h dX3_owe_40 (by decide) (pc' := 42) rfl ?_
        exact g_iret h hr dX3_owe_42 (by first | rfl | simp only [if_neg c1, if_neg c2, if_pos c3] | simp [c1, c2, c3]) rfl
set_option maxRecDepth 20000 in
set_option maxHeartbeats 4000000 in
theorem M_owe {Z : ZT} {m : Nat} {toll : Int32} {paid : Int32} {coin : Nat → Int32} {debt : Nat → Int32} {fall : Nat → Int32} {shr : Nat → Int64} {mat : Nat → Int64} {rgt : Nat → Int64} {pen : Int32} {last : Int32} {below : Int64} {i : Nat} {j : Nat} {v : Int32}  (g0 : i < m) (g1 : m ≤ 4) (g2 : j ≤ m) (g3 : ¬ v < 0) (g4 : ¬ nI 50 < v) (g5 : ¬ i = j) : MM Z yX3_owe cX3_owe 6 (some .int) 2 [.ref (Z.2.2 0), .int (nI i), .int (nI j), .int v] (wC Z (nI m) toll paid coin debt fall shr mat rgt pen last below) (some (.int (debt (i * 5 + cm m j)))) (wC Z (nI m) toll paid coin (upd debt (i * 5 + cm m j) v) fall shr mat rgt pen last below) := by
  refine MM.intro (by decide) [some (.ref (Z.2.2 0)), some (.int (nI i)), some (.int (nI j)), some (.int v), none, none] rfl (Nat.le_of_ble_eq_true rfl) (fun X (h : OK Z X cX3_owe RX3 6 (rmd 2)) hr => ?_)
  refine g_aload_n (i := 0) h dX3_owe_0 rfl rfl (pc' := 1) rfl ?_
  refine gf_X3_10 h dX3_owe_1 (pc' := 4) rfl ?_
  refine g_iload_n (i := 1) h dX3_owe_4 rfl rfl (pc' := 5) rfl ?_
  refine g_callV1 (q0 := 1) h dX3_owe_5 cf_X3_36 (M_X0_isHouse (i := nI i) ) rfl rfl rfl rfl (by decide) rfl (Nat.le_of_ble_eq_true rfl) (pc' := 8) rfl ?_
  refine g_if_eqF (tg := 22) h dX3_owe_8 (by decide) (pc' := 11) rfl (fun q => (bI_0.mp q) (hsO g0 g1)) ?_
  refine g_aload_n (i := 0) h dX3_owe_11 rfl rfl (pc' := 12) rfl ?_
  refine gf_X3_10 h dX3_owe_12 (pc' := 15) rfl ?_
  refine g_iload_n (i := 2) h dX3_owe_15 rfl rfl (pc' := 16) rfl ?_
  refine g_callV1 (q0 := 1) h dX3_owe_16 cf_X3_48 (M_X0_isPayee (i := nI j) ) rfl rfl rfl rfl (by decide) rfl (Nat.le_of_ble_eq_true rfl) (pc' := 19) rfl ?_
  refine g_if_neT (tg := 25) h dX3_owe_19 (by decide) (fun q => (bI_0.mp q) (hpO g2 g1)) ?_
  refine g_iload_n (i := 3) h dX3_owe_25 rfl rfl (pc' := 26) rfl ?_
  refine g_if_ltF (tg := 40) h dX3_owe_26 (by decide) (pc' := 29) rfl g3 ?_
  refine g_iload_n (i := 3) h dX3_owe_29 rfl rfl (pc' := 30) rfl ?_
  refine g_bipush (v := nI 50) h dX3_owe_30 (by decide) (pc' := 32) rfl ?_
  refine g_icmp_gtF (tg := 40) h dX3_owe_32 (by decide) (pc' := 35) rfl g4 ?_
  refine g_iload_n (i := 1) h dX3_owe_35 rfl rfl (pc' := 36) rfl ?_
  refine g_iload_n (i := 2) h dX3_owe_36 rfl rfl (pc' := 37) rfl ?_
  refine g_icmp_neT (tg := 43) h dX3_owe_37 (by decide) (fun q => g5 ((nI_eq (by omega) (by omega)).mp q)) ?_
  refine g_aload_n (i := 0) h dX3_owe_43 rfl rfl (pc' := 44) rfl ?_
  refine gf_X3_10 h dX3_owe_44 (pc' := 47) rfl ?_
  refine g_iload_n (i := 2) h dX3_owe_47 rfl rfl (pc' := 48) rfl ?_
  refine g_callV1 (q0 := 1) h dX3_owe_48 cf_X3_51 (M_X0_columnOf_N (i := j) g2 g1) rfl rfl rfl rfl (by decide) rfl (Nat.le_of_ble_eq_true rfl) (pc' := 51) rfl ?_
  refine g_istore4 h dX3_owe_51 rfl (by decide) (pc' := 53) rfl ?_
  refine g_aload_n (i := 0) h dX3_owe_53 rfl rfl (pc' := 54) rfl ?_
  refine gf_X3_10 h dX3_owe_54 (pc' := 57) rfl ?_
  refine g_iload_n (i := 1) h dX3_owe_57 rfl rfl (pc' := 58) rfl ?_
  refine g_iload h dX3_owe_58 rfl (pc' := 60) rfl ?_
  refine g_callV1 (q0 := 1) h dX3_owe_60 cf_X3_54 (M_X0_owed (i := i) (c := cm m j) (by omega) (col_lt g2 g1)) rfl rfl rfl rfl (by decide) rfl (Nat.le_of_ble_eq_true rfl) (pc' := 63) rfl ?_
  refine g_istore5 h dX3_owe_63 rfl (by decide) (pc' := 65) rfl ?_
  refine g_aload_n (i := 0) h dX3_owe_65 rfl rfl (pc' := 66) rfl ?_
  refine gf_X3_10 h dX3_owe_66 (pc' := 69) rfl ?_
  refine g_iload_n (i := 1) h dX3_owe_69 rfl rfl (pc' := 70) rfl ?_
  refine g_iload h dX3_owe_70 rfl (pc' := 72) rfl ?_
  refine g_iload_n (i := 3) h dX3_owe_72 rfl rfl (pc' := 73) rfl ?_
  refine g_callV0 (q0 := 1) h dX3_owe_73 cf_X3_58 (M_X0_setOwed (i := i) (c := cm m j) (v := v) (by omega) (col_lt g2 g1)) rfl rfl rfl rfl (by decide) rfl (Nat.le_of_ble_eq_true rfl) (pc' := 76) rfl ?_
  refine g_iload h dX3_owe_76 rfl (pc' := 78) rfl ?_
  exact g_iret h hr dX3_owe_78 rfl rfl
set_option maxRecDepth 20000 in
set_option maxHeartbeats 4000000 in
theorem M_toll_O {Z : ZT} {m : Nat} {toll : Int32} {paid : Int32} {coin : Nat → Int32} {debt : Nat → Int32} {fall : Nat → Int32} {shr : Nat → Int64} {mat : Nat → Int64} {rgt : Nat → Int64} {pen : Int32} {last : Int32} {below : Int64} {v : Int32}  (g0 : v < 0 ∨ ¬ v ≤ nI 5) : MM Z yX3_toll cX3_toll 3 (some .int) 0 [.ref (Z.2.2 0), .int v] (wC Z (nI m) toll paid coin debt fall shr mat rgt pen last below) (some (.int (-102))) (wC Z (nI m) toll paid coin debt fall shr mat rgt pen last below) := by
  refine MM.intro (by decide) [some (.ref (Z.2.2 0)), some (.int v), none] rfl (Nat.le_of_ble_eq_true rfl) (fun X (h : OK Z X cX3_toll RX3 3 (rmd 0)) hr => ?_)
  refine g_iload_n (i := 1) h dX3_toll_0 rfl rfl (pc' := 1) rfl ?_
  refine g_if_lt (tg := 9) h dX3_toll_1 (by decide) (pc' := 4) rfl (fun c1 => ?_) (fun c1 => ?_)
  · skip
    refine g_bipush (v := (-102)) h dX3_toll_9 (by decide) (pc' := 11) rfl ?_
    exact g_iret h hr dX3_toll_11 (by first | rfl | simp only [if_pos c1] | simp [c1]) rfl
  · skip
    refine g_iload_n (i := 1) h dX3_toll_4 rfl rfl (pc' := 5) rfl ?_
    refine g_iconst (v := nI 5) h dX3_toll_5 (by decide) (pc' := 6) rfl ?_
    refine g_icmp_le (tg := 12) h dX3_toll_6 (by decide) (pc' := 9) rfl (fun c2 => ?_) (fun c2 => ?_)
    · skip
      exact absurd g0 (fun q => by rcases q with q | q; exact c1 q; exact q c2)
    · skip
      refine g_bipush (v := (-102)) h dX3_toll_9 (by decide) (pc' := 11) rfl ?_
      exact g_iret h hr dX3_toll_11 (by first | rfl | simp only [if_neg c1, if_neg c2] | simp [c1, c2]) rfl
set_option maxRecDepth 20000 in
set_option maxHeartbeats 4000000 in
theorem M_toll {Z : ZT} {m : Nat} {toll : Int32} {paid : Int32} {coin : Nat → Int32} {debt : Nat → Int32} {fall : Nat → Int32} {shr : Nat → Int64} {mat : Nat → Int64} {rgt : Nat → Int64} {pen : Int32} {last : Int32} {below : Int64} {v : Int32}  (g0 : ¬ v < 0) (g1 : v ≤ nI 5) : MM Z yX3_toll cX3_toll 3 (some .int) 0 [.ref (Z.2.2 0), .int v] (wC Z (nI m) toll paid coin debt fall shr mat rgt pen last below) (some (.int toll)) (wC Z (nI m) v paid coin debt fall shr mat rgt pen last below) := by
  refine MM.intro (by decide) [some (.ref (Z.2.2 0)), some (.int v), none] rfl (Nat.le_of_ble_eq_true rfl) (fun X (h : OK Z X cX3_toll RX3 3 (rmd 0)) hr => ?_)
  refine g_iload_n (i := 1) h dX3_toll_0 rfl rfl (pc' := 1) rfl ?_
  refine g_if_ltF (tg := 9) h dX3_toll_1 (by decide) (pc' := 4) rfl g0 ?_
  refine g_iload_n (i := 1) h dX3_toll_4 rfl rfl (pc' := 5) rfl ?_
  refine g_iconst (v := nI 5) h dX3_toll_5 (by decide) (pc' := 6) rfl ?_
  refine g_icmp_leT (tg := 12) h dX3_toll_6 (by decide) g1 ?_
  refine g_aload_n (i := 0) h dX3_toll_12 rfl rfl (pc' := 13) rfl ?_
  refine gf_X3_10 h dX3_toll_13 (pc' := 16) rfl ?_
  refine gf_X3_62 h dX3_toll_16 (pc' := 19) rfl ?_
  refine g_istore2 h dX3_toll_19 rfl (by decide) (pc' := 20) rfl ?_
  refine g_aload_n (i := 0) h dX3_toll_20 rfl rfl (pc' := 21) rfl ?_
  refine gf_X3_10 h dX3_toll_21 (pc' := 24) rfl ?_
  refine g_iload_n (i := 1) h dX3_toll_24 rfl rfl (pc' := 25) rfl ?_
  refine pf_X3_62 h dX3_toll_25 (pc' := 28) rfl ?_
  refine g_iload_n (i := 2) h dX3_toll_28 rfl rfl (pc' := 29) rfl ?_
  exact g_iret h hr dX3_toll_29 rfl rfl
set_option maxRecDepth 20000 in
set_option maxHeartbeats 4000000 in
theorem M_cashOf_U {Z : ZT} {m : Nat} {toll : Int32} {paid : Int32} {coin : Nat → Int32} {debt : Nat → Int32} {fall : Nat → Int32} {shr : Nat → Int64} {mat : Nat → Int64} {rgt : Nat → Int64} {pen : Int32} {last : Int32} {below : Int64} {i : Int32}  (g0 : ¬ (¬ i < 0 ∧ ¬ nI m ≤ i)) : MM Z yX3_cashOf cX3_cashOf 2 (some .int) 2 [.ref (Z.2.2 0), .int i] (wC Z (nI m) toll paid coin debt fall shr mat rgt pen last below) (some (.int (-101))) (wC Z (nI m) toll paid coin debt fall shr mat rgt pen last below) := by
  refine MM.intro (by decide) [some (.ref (Z.2.2 0)), some (.int i)] rfl (Nat.le_of_ble_eq_true rfl) (fun X (h : OK Z X cX3_cashOf RX3 2 (rmd 2)) hr => ?_)
  refine g_aload_n (i := 0) h dX3_cashOf_0 rfl rfl (pc' := 1) rfl ?_
  refine gf_X3_10 h dX3_cashOf_1 (pc' := 4) rfl ?_
  refine g_iload_n (i := 1) h dX3_cashOf_4 rfl rfl (pc' := 5) rfl ?_
  refine g_callV1 (q0 := 1) h dX3_cashOf_5 cf_X3_36 (M_X0_isHouse (i := i) ) rfl rfl rfl rfl (by decide) rfl (Nat.le_of_ble_eq_true rfl) (pc' := 8) rfl ?_
  refine g_if_eqT (tg := 22) h dX3_cashOf_8 (by decide) (bI_n g0) ?_
  refine g_bipush (v := (-101)) h dX3_cashOf_22 (by decide) (pc' := 24) rfl ?_
  exact g_iret h hr dX3_cashOf_24 rfl rfl
set_option maxRecDepth 20000 in
set_option maxHeartbeats 4000000 in
theorem M_cashOf {Z : ZT} {m : Nat} {toll : Int32} {paid : Int32} {coin : Nat → Int32} {debt : Nat → Int32} {fall : Nat → Int32} {shr : Nat → Int64} {mat : Nat → Int64} {rgt : Nat → Int64} {pen : Int32} {last : Int32} {below : Int64} {i : Nat}  (g0 : i < m) (g1 : m ≤ 4) : MM Z yX3_cashOf cX3_cashOf 2 (some .int) 2 [.ref (Z.2.2 0), .int (nI i)] (wC Z (nI m) toll paid coin debt fall shr mat rgt pen last below) (some (.int (coin i))) (wC Z (nI m) toll paid coin debt fall shr mat rgt pen last below) := by
  refine MM.intro (by decide) [some (.ref (Z.2.2 0)), some (.int (nI i))] rfl (Nat.le_of_ble_eq_true rfl) (fun X (h : OK Z X cX3_cashOf RX3 2 (rmd 2)) hr => ?_)
  refine g_aload_n (i := 0) h dX3_cashOf_0 rfl rfl (pc' := 1) rfl ?_
  refine gf_X3_10 h dX3_cashOf_1 (pc' := 4) rfl ?_
  refine g_iload_n (i := 1) h dX3_cashOf_4 rfl rfl (pc' := 5) rfl ?_
  refine g_callV1 (q0 := 1) h dX3_cashOf_5 cf_X3_36 (M_X0_isHouse (i := nI i) ) rfl rfl rfl rfl (by decide) rfl (Nat.le_of_ble_eq_true rfl) (pc' := 8) rfl ?_
  refine g_if_eqF (tg := 22) h dX3_cashOf_8 (by decide) (pc' := 11) rfl (fun q => (bI_0.mp q) (hsO g0 g1)) ?_
  refine g_aload_n (i := 0) h dX3_cashOf_11 rfl rfl (pc' := 12) rfl ?_
  refine gf_X3_10 h dX3_cashOf_12 (pc' := 15) rfl ?_
  refine g_iload_n (i := 1) h dX3_cashOf_15 rfl rfl (pc' := 16) rfl ?_
  refine g_callV1 (q0 := 1) h dX3_cashOf_16 cf_X3_40 (M_X0_coins (i := i) (by omega)) rfl rfl rfl rfl (by decide) rfl (Nat.le_of_ble_eq_true rfl) (pc' := 19) rfl ?_
  refine g_goto (pc' := 24) h dX3_cashOf_19 (by decide) ?_
  exact g_iret h hr dX3_cashOf_24 rfl rfl
set_option maxRecDepth 20000 in
set_option maxHeartbeats 4000000 in
theorem M_owes_U {Z : ZT} {m : Nat} {toll : Int32} {paid : Int32} {coin : Nat → Int32} {debt : Nat → Int32} {fall : Nat → Int32} {shr : Nat → Int64} {mat : Nat → Int64} {rgt : Nat → Int64} {pen : Int32} {last : Int32} {below : Int64} {i : Int32}  (g0 : ¬ (¬ i < 0 ∧ ¬ nI m ≤ i)) : MM Z yX3_owes cX3_owes 2 (some .int) 3 [.ref (Z.2.2 0), .int i] (wC Z (nI m) toll paid coin debt fall shr mat rgt pen last below) (some (.int (-101))) (wC Z (nI m) toll paid coin debt fall shr mat rgt pen last below) := by
  refine MM.intro (by decide) [some (.ref (Z.2.2 0)), some (.int i)] rfl (Nat.le_of_ble_eq_true rfl) (fun X (h : OK Z X cX3_owes RX3 2 (rmd 3)) hr => ?_)
  refine g_aload_n (i := 0) h dX3_owes_0 rfl rfl (pc' := 1) rfl ?_
  refine gf_X3_10 h dX3_owes_1 (pc' := 4) rfl ?_
  refine g_iload_n (i := 1) h dX3_owes_4 rfl rfl (pc' := 5) rfl ?_
  refine g_callV1 (q0 := 1) h dX3_owes_5 cf_X3_36 (M_X0_isHouse (i := i) ) rfl rfl rfl rfl (by decide) rfl (Nat.le_of_ble_eq_true rfl) (pc' := 8) rfl ?_
  refine g_if_eqT (tg := 22) h dX3_owes_8 (by decide) (bI_n g0) ?_
  refine g_bipush (v := (-101)) h dX3_owes_22 (by decide) (pc' := 24) rfl ?_
  exact g_iret h hr dX3_owes_24 rfl rfl
set_option maxRecDepth 20000 in
set_option maxHeartbeats 4000000 in
theorem M_owes {Z : ZT} {m : Nat} {toll : Int32} {paid : Int32} {coin : Nat → Int32} {debt : Nat → Int32} {fall : Nat → Int32} {shr : Nat → Int64} {mat : Nat → Int64} {rgt : Nat → Int64} {pen : Int32} {last : Int32} {below : Int64} {i : Nat}  (g0 : i < m) (g1 : m ≤ 4) : MM Z yX3_owes cX3_owes 2 (some .int) 3 [.ref (Z.2.2 0), .int (nI i)] (wC Z (nI m) toll paid coin debt fall shr mat rgt pen last below) (some (.int (oB debt i))) (wC Z (nI m) toll paid coin debt fall shr mat rgt pen last below) := by
  refine MM.intro (by decide) [some (.ref (Z.2.2 0)), some (.int (nI i))] rfl (Nat.le_of_ble_eq_true rfl) (fun X (h : OK Z X cX3_owes RX3 2 (rmd 3)) hr => ?_)
  refine g_aload_n (i := 0) h dX3_owes_0 rfl rfl (pc' := 1) rfl ?_
  refine gf_X3_10 h dX3_owes_1 (pc' := 4) rfl ?_
  refine g_iload_n (i := 1) h dX3_owes_4 rfl rfl (pc' := 5) rfl ?_
  refine g_callV1 (q0 := 1) h dX3_owes_5 cf_X3_36 (M_X0_isHouse (i := nI i) ) rfl rfl rfl rfl (by decide) rfl (Nat.le_of_ble_eq_true rfl) (pc' := 8) rfl ?_
  refine g_if_eqF (tg := 22) h dX3_owes_8 (by decide) (pc' := 11) rfl (fun q => (bI_0.mp q) (hsO g0 g1)) ?_
  refine g_aload_n (i := 0) h dX3_owes_11 rfl rfl (pc' := 12) rfl ?_
  refine gf_X3_10 h dX3_owes_12 (pc' := 15) rfl ?_
  refine g_iload_n (i := 1) h dX3_owes_15 rfl rfl (pc' := 16) rfl ?_
  refine g_callV1 (q0 := 1) h dX3_owes_16 cf_X3_66 (M_X0_allOwedBy (i := i) (by omega)) rfl rfl rfl rfl (by decide) rfl (Nat.le_of_ble_eq_true rfl) (pc' := 19) rfl ?_
  refine g_goto (pc' := 24) h dX3_owes_19 (by decide) ?_
  exact g_iret h hr dX3_owes_24 rfl rfl
set_option maxRecDepth 20000 in
set_option maxHeartbeats 4000000 in
theorem M_help_U {Z : ZT} {m : Nat} {toll : Int32} {paid : Int32} {coin : Nat → Int32} {debt : Nat → Int32} {fall : Nat → Int32} {shr : Nat → Int64} {mat : Nat → Int64} {rgt : Nat → Int64} {pen : Int32} {last : Int32} {below : Int64} {i : Int32}  (g0 : ¬ (¬ i < 0 ∧ ¬ nI m ≤ i)) : MM Z yX3_help cX3_help 2 (some .int) 5 [.ref (Z.2.2 0), .int i] (wC Z (nI m) toll paid coin debt fall shr mat rgt pen last below) (some (.int (-101))) (wC Z (nI m) toll paid coin debt fall shr mat rgt pen last below) := by
  refine MM.intro (by decide) [some (.ref (Z.2.2 0)), some (.int i)] rfl (Nat.le_of_ble_eq_true rfl) (fun X (h : OK Z X cX3_help RX3 2 (rmd 5)) hr => ?_)
  refine g_aload_n (i := 0) h dX3_help_0 rfl rfl (pc' := 1) rfl ?_
  refine gf_X3_10 h dX3_help_1 (pc' := 4) rfl ?_
  refine g_iload_n (i := 1) h dX3_help_4 rfl rfl (pc' := 5) rfl ?_
  refine g_callV1 (q0 := 1) h dX3_help_5 cf_X3_36 (M_X0_isHouse (i := i) ) rfl rfl rfl rfl (by decide) rfl (Nat.le_of_ble_eq_true rfl) (pc' := 8) rfl ?_
  refine g_if_eqT (tg := 22) h dX3_help_8 (by decide) (bI_n g0) ?_
  refine g_bipush (v := (-101)) h dX3_help_22 (by decide) (pc' := 24) rfl ?_
  exact g_iret h hr dX3_help_24 rfl rfl
set_option maxRecDepth 20000 in
set_option maxHeartbeats 4000000 in
theorem M_help {Z : ZT} {m : Nat} {toll : Int32} {paid : Int32} {coin : Nat → Int32} {debt : Nat → Int32} {fall : Nat → Int32} {shr : Nat → Int64} {mat : Nat → Int64} {rgt : Nat → Int64} {pen : Int32} {last : Int32} {below : Int64} {i : Nat}  (g0 : i < m) (g1 : m ≤ 4) : MM Z yX3_help cX3_help 2 (some .int) 5 [.ref (Z.2.2 0), .int (nI i)] (wC Z (nI m) toll paid coin debt fall shr mat rgt pen last below) (some (.int (hN coin debt i))) (wC Z (nI m) toll paid coin debt fall shr mat rgt pen last below) := by
  refine MM.intro (by decide) [some (.ref (Z.2.2 0)), some (.int (nI i))] rfl (Nat.le_of_ble_eq_true rfl) (fun X (h : OK Z X cX3_help RX3 2 (rmd 5)) hr => ?_)
  refine g_aload_n (i := 0) h dX3_help_0 rfl rfl (pc' := 1) rfl ?_
  refine gf_X3_10 h dX3_help_1 (pc' := 4) rfl ?_
  refine g_iload_n (i := 1) h dX3_help_4 rfl rfl (pc' := 5) rfl ?_
  refine g_callV1 (q0 := 1) h dX3_help_5 cf_X3_36 (M_X0_isHouse (i := nI i) ) rfl rfl rfl rfl (by decide) rfl (Nat.le_of_ble_eq_true rfl) (pc' := 8) rfl ?_
  refine g_if_eqF (tg := 22) h dX3_help_8 (by decide) (pc' := 11) rfl (fun q => (bI_0.mp q) (hsO g0 g1)) ?_
  refine g_aload_n (i := 0) h dX3_help_11 rfl rfl (pc' := 12) rfl ?_
  refine gf_X3_10 h dX3_help_12 (pc' := 15) rfl ?_
  refine g_iload_n (i := 1) h dX3_help_15 rfl rfl (pc' := 16) rfl ?_
  refine g_callV1 (q0 := 1) h dX3_help_16 cf_X3_113 (M_X0_helpNeeded (i := i) (by omega)) rfl rfl rfl rfl (by decide) rfl (Nat.le_of_ble_eq_true rfl) (pc' := 19) rfl ?_
  refine g_goto (pc' := 24) h dX3_help_19 (by decide) ?_
  exact g_iret h hr dX3_help_24 rfl rfl
set_option maxRecDepth 20000 in
set_option maxHeartbeats 4000000 in
theorem M_net_U {Z : ZT} {m : Nat} {toll : Int32} {paid : Int32} {coin : Nat → Int32} {debt : Nat → Int32} {fall : Nat → Int32} {shr : Nat → Int64} {mat : Nat → Int64} {rgt : Nat → Int64} {pen : Int32} {last : Int32} {below : Int64} {i : Int32}  (g0 : ¬ (¬ i < 0 ∧ ¬ nI m ≤ i)) : MM Z yX3_net cX3_net 2 (some .int) 3 [.ref (Z.2.2 0), .int i] (wC Z (nI m) toll paid coin debt fall shr mat rgt pen last below) (some (.int (-1000000))) (wC Z (nI m) toll paid coin debt fall shr mat rgt pen last below) := by
  refine MM.intro (by decide) [some (.ref (Z.2.2 0)), some (.int i)] rfl (Nat.le_of_ble_eq_true rfl) (fun X (h : OK Z X cX3_net RX3 2 (rmd 3)) hr => ?_)
  refine g_aload_n (i := 0) h dX3_net_0 rfl rfl (pc' := 1) rfl ?_
  refine gf_X3_10 h dX3_net_1 (pc' := 4) rfl ?_
  refine g_iload_n (i := 1) h dX3_net_4 rfl rfl (pc' := 5) rfl ?_
  refine g_callV1 (q0 := 1) h dX3_net_5 cf_X3_36 (M_X0_isHouse (i := i) ) rfl rfl rfl rfl (by decide) rfl (Nat.le_of_ble_eq_true rfl) (pc' := 8) rfl ?_
  refine g_if_eqT (tg := 31) h dX3_net_8 (by decide) (bI_n g0) ?_
  refine g_ldc h dX3_net_31 co_X3_122 (pc' := 33) rfl ?_
  exact g_iret h hr dX3_net_33 rfl rfl
set_option maxRecDepth 20000 in
set_option maxHeartbeats 4000000 in
theorem M_net {Z : ZT} {m : Nat} {toll : Int32} {paid : Int32} {coin : Nat → Int32} {debt : Nat → Int32} {fall : Nat → Int32} {shr : Nat → Int64} {mat : Nat → Int64} {rgt : Nat → Int64} {pen : Int32} {last : Int32} {below : Int64} {i : Nat}  (g0 : i < m) (g1 : m ≤ 4) : MM Z yX3_net cX3_net 2 (some .int) 3 [.ref (Z.2.2 0), .int (nI i)] (wC Z (nI m) toll paid coin debt fall shr mat rgt pen last below) (some (.int (oT debt i - oB debt i))) (wC Z (nI m) toll paid coin debt fall shr mat rgt pen last below) := by
  refine MM.intro (by decide) [some (.ref (Z.2.2 0)), some (.int (nI i))] rfl (Nat.le_of_ble_eq_true rfl) (fun X (h : OK Z X cX3_net RX3 2 (rmd 3)) hr => ?_)
  refine g_aload_n (i := 0) h dX3_net_0 rfl rfl (pc' := 1) rfl ?_
  refine gf_X3_10 h dX3_net_1 (pc' := 4) rfl ?_
  refine g_iload_n (i := 1) h dX3_net_4 rfl rfl (pc' := 5) rfl ?_
  refine g_callV1 (q0 := 1) h dX3_net_5 cf_X3_36 (M_X0_isHouse (i := nI i) ) rfl rfl rfl rfl (by decide) rfl (Nat.le_of_ble_eq_true rfl) (pc' := 8) rfl ?_
  refine g_if_eqF (tg := 31) h dX3_net_8 (by decide) (pc' := 11) rfl (fun q => (bI_0.mp q) (hsO g0 g1)) ?_
  refine g_aload_n (i := 0) h dX3_net_11 rfl rfl (pc' := 12) rfl ?_
  refine gf_X3_10 h dX3_net_12 (pc' := 15) rfl ?_
  refine g_iload_n (i := 1) h dX3_net_15 rfl rfl (pc' := 16) rfl ?_
  refine g_callV1 (q0 := 1) h dX3_net_16 cf_X3_119 (M_X0_allOwedTo (c := i) (by omega)) rfl rfl rfl rfl (by decide) rfl (Nat.le_of_ble_eq_true rfl) (pc' := 19) rfl ?_
  refine g_aload_n (i := 0) h dX3_net_19 rfl rfl (pc' := 20) rfl ?_
  refine gf_X3_10 h dX3_net_20 (pc' := 23) rfl ?_
  refine g_iload_n (i := 1) h dX3_net_23 rfl rfl (pc' := 24) rfl ?_
  refine g_callV1 (q0 := 1) h dX3_net_24 cf_X3_66 (M_X0_allOwedBy (i := i) (by omega)) rfl rfl rfl rfl (by decide) rfl (Nat.le_of_ble_eq_true rfl) (pc' := 27) rfl ?_
  refine g_isub h dX3_net_27 (pc' := 28) rfl ?_
  refine g_goto (pc' := 33) h dX3_net_28 (by decide) ?_
  exact g_iret h hr dX3_net_33 rfl rfl
set_option maxRecDepth 20000 in
set_option maxHeartbeats 4000000 in
theorem M_falls_U {Z : ZT} {m : Nat} {toll : Int32} {paid : Int32} {coin : Nat → Int32} {debt : Nat → Int32} {fall : Nat → Int32} {shr : Nat → Int64} {mat : Nat → Int64} {rgt : Nat → Int64} {pen : Int32} {last : Int32} {below : Int64} {i : Int32}  (g0 : ¬ (¬ i < 0 ∧ ¬ nI m ≤ i)) : MM Z yX3_falls cX3_falls 2 (some .int) 6 [.ref (Z.2.2 0), .int i] (wC Z (nI m) toll paid coin debt fall shr mat rgt pen last below) (some (.int (-101))) (wC Z (nI m) toll paid coin debt fall shr mat rgt pen last below) := by
  refine MM.intro (by decide) [some (.ref (Z.2.2 0)), some (.int i)] rfl (Nat.le_of_ble_eq_true rfl) (fun X (h : OK Z X cX3_falls RX3 2 (rmd 6)) hr => ?_)
  refine g_aload_n (i := 0) h dX3_falls_0 rfl rfl (pc' := 1) rfl ?_
  refine gf_X3_10 h dX3_falls_1 (pc' := 4) rfl ?_
  refine g_iload_n (i := 1) h dX3_falls_4 rfl rfl (pc' := 5) rfl ?_
  refine g_callV1 (q0 := 1) h dX3_falls_5 cf_X3_36 (M_X0_isHouse (i := i) ) rfl rfl rfl rfl (by decide) rfl (Nat.le_of_ble_eq_true rfl) (pc' := 8) rfl ?_
  refine g_if_neF (tg := 14) h dX3_falls_8 (by decide) (pc' := 11) rfl (bI_n g0) ?_
  refine g_bipush (v := (-101)) h dX3_falls_11 (by decide) (pc' := 13) rfl ?_
  exact g_iret h hr dX3_falls_13 rfl rfl
set_option maxRecDepth 20000 in
set_option maxHeartbeats 4000000 in
theorem M_falls {Z : ZT} {m : Nat} {toll : Int32} {paid : Int32} {coin : Nat → Int32} {debt : Nat → Int32} {fall : Nat → Int32} {shr : Nat → Int64} {mat : Nat → Int64} {rgt : Nat → Int64} {pen : Int32} {last : Int32} {below : Int64} {i : Nat}  (g0 : i < m) (g1 : m ≤ 4) : MM Z yX3_falls cX3_falls 2 (some .int) 6 [.ref (Z.2.2 0), .int (nI i)] (wC Z (nI m) toll paid coin debt fall shr mat rgt pen last below) (some (.int ((cst toll (-1) coin debt fall shr mat rgt).1 i))) (wC Z (nI m) toll paid coin debt ((cst toll (-1) coin debt fall shr mat rgt).1) ((cst toll (-1) coin debt fall shr mat rgt).2.1) ((cst toll (-1) coin debt fall shr mat rgt).2.2.1) ((cst toll (-1) coin debt fall shr mat rgt).2.2.2.1) (-1) ((cst toll (-1) coin debt fall shr mat rgt).2.2.2.2.1) ((cst toll (-1) coin debt fall shr mat rgt).2.2.2.2.2)) := by
  refine MM.intro (by decide) [some (.ref (Z.2.2 0)), some (.int (nI i))] rfl (Nat.le_of_ble_eq_true rfl) (fun X (h : OK Z X cX3_falls RX3 2 (rmd 6)) hr => ?_)
  refine g_aload_n (i := 0) h dX3_falls_0 rfl rfl (pc' := 1) rfl ?_
  refine gf_X3_10 h dX3_falls_1 (pc' := 4) rfl ?_
  refine g_iload_n (i := 1) h dX3_falls_4 rfl rfl (pc' := 5) rfl ?_
  refine g_callV1 (q0 := 1) h dX3_falls_5 cf_X3_36 (M_X0_isHouse (i := nI i) ) rfl rfl rfl rfl (by decide) rfl (Nat.le_of_ble_eq_true rfl) (pc' := 8) rfl ?_
  refine g_if_neT (tg := 14) h dX3_falls_8 (by decide) (fun q => (bI_0.mp q) (hsO g0 g1)) ?_
  refine g_aload_n (i := 0) h dX3_falls_14 rfl rfl (pc' := 15) rfl ?_
  refine gf_X3_21 h dX3_falls_15 (pc' := 18) rfl ?_
  refine g_iconst (v := (-1)) h dX3_falls_18 (by decide) (pc' := 19) rfl ?_
  refine g_callV0 (q0 := 2) h dX3_falls_19 cf_X3_69 (M_X1_settle (p := (-1)) ) rfl rfl rfl rfl (by decide) rfl (Nat.le_of_ble_eq_true rfl) (pc' := 22) rfl ?_
  refine g_aload_n (i := 0) h dX3_falls_22 rfl rfl (pc' := 23) rfl ?_
  refine gf_X3_21 h dX3_falls_23 (pc' := 26) rfl ?_
  refine g_iload_n (i := 1) h dX3_falls_26 rfl rfl (pc' := 27) rfl ?_
  refine g_callV1 (q0 := 2) h dX3_falls_27 cf_X3_72 (M_X1_roundOfFall (i := i) (by omega)) rfl rfl rfl rfl (by decide) rfl (Nat.le_of_ble_eq_true rfl) (pc' := 30) rfl ?_
  exact g_iret h hr dX3_falls_30 rfl rfl
set_option maxRecDepth 20000 in
set_option maxHeartbeats 4000000 in
theorem M_drag_U {Z : ZT} {m : Nat} {toll : Int32} {paid : Int32} {coin : Nat → Int32} {debt : Nat → Int32} {fall : Nat → Int32} {shr : Nat → Int64} {mat : Nat → Int64} {rgt : Nat → Int64} {pen : Int32} {last : Int32} {below : Int64} {i : Int32}  (g0 : ¬ (¬ i < 0 ∧ ¬ nI m ≤ i)) : MM Z yX3_drag cX3_drag 2 (some .int) 6 [.ref (Z.2.2 0), .int i] (wC Z (nI m) toll paid coin debt fall shr mat rgt pen last below) (some (.int (-101))) (wC Z (nI m) toll paid coin debt fall shr mat rgt pen last below) := by
  refine MM.intro (by decide) [some (.ref (Z.2.2 0)), some (.int i)] rfl (Nat.le_of_ble_eq_true rfl) (fun X (h : OK Z X cX3_drag RX3 2 (rmd 6)) hr => ?_)
  refine g_aload_n (i := 0) h dX3_drag_0 rfl rfl (pc' := 1) rfl ?_
  refine gf_X3_10 h dX3_drag_1 (pc' := 4) rfl ?_
  refine g_iload_n (i := 1) h dX3_drag_4 rfl rfl (pc' := 5) rfl ?_
  refine g_callV1 (q0 := 1) h dX3_drag_5 cf_X3_36 (M_X0_isHouse (i := i) ) rfl rfl rfl rfl (by decide) rfl (Nat.le_of_ble_eq_true rfl) (pc' := 8) rfl ?_
  refine g_if_neF (tg := 14) h dX3_drag_8 (by decide) (pc' := 11) rfl (bI_n g0) ?_
  refine g_bipush (v := (-101)) h dX3_drag_11 (by decide) (pc' := 13) rfl ?_
  exact g_iret h hr dX3_drag_13 rfl rfl
set_option maxRecDepth 20000 in
set_option maxHeartbeats 4000000 in
theorem M_drag {Z : ZT} {m : Nat} {toll : Int32} {paid : Int32} {coin : Nat → Int32} {debt : Nat → Int32} {fall : Nat → Int32} {shr : Nat → Int64} {mat : Nat → Int64} {rgt : Nat → Int64} {pen : Int32} {last : Int32} {below : Int64} {i : Nat}  (g0 : i < m) (g1 : m ≤ 4) : MM Z yX3_drag cX3_drag 2 (some .int) 6 [.ref (Z.2.2 0), .int (nI i)] (wC Z (nI m) toll paid coin debt fall shr mat rgt pen last below) (some (.int (nI (fC (cst toll (nI i) coin debt fall shr mat rgt).1 4)))) (wC Z (nI m) toll paid coin debt ((cst toll (nI i) coin debt fall shr mat rgt).1) ((cst toll (nI i) coin debt fall shr mat rgt).2.1) ((cst toll (nI i) coin debt fall shr mat rgt).2.2.1) ((cst toll (nI i) coin debt fall shr mat rgt).2.2.2.1) (nI i) ((cst toll (nI i) coin debt fall shr mat rgt).2.2.2.2.1) ((cst toll (nI i) coin debt fall shr mat rgt).2.2.2.2.2)) := by
  refine MM.intro (by decide) [some (.ref (Z.2.2 0)), some (.int (nI i))] rfl (Nat.le_of_ble_eq_true rfl) (fun X (h : OK Z X cX3_drag RX3 2 (rmd 6)) hr => ?_)
  refine g_aload_n (i := 0) h dX3_drag_0 rfl rfl (pc' := 1) rfl ?_
  refine gf_X3_10 h dX3_drag_1 (pc' := 4) rfl ?_
  refine g_iload_n (i := 1) h dX3_drag_4 rfl rfl (pc' := 5) rfl ?_
  refine g_callV1 (q0 := 1) h dX3_drag_5 cf_X3_36 (M_X0_isHouse (i := nI i) ) rfl rfl rfl rfl (by decide) rfl (Nat.le_of_ble_eq_true rfl) (pc' := 8) rfl ?_
  refine g_if_neT (tg := 14) h dX3_drag_8 (by decide) (fun q => (bI_0.mp q) (hsO g0 g1)) ?_
  refine g_aload_n (i := 0) h dX3_drag_14 rfl rfl (pc' := 15) rfl ?_
  refine gf_X3_21 h dX3_drag_15 (pc' := 18) rfl ?_
  refine g_iload_n (i := 1) h dX3_drag_18 rfl rfl (pc' := 19) rfl ?_
  refine g_callV0 (q0 := 2) h dX3_drag_19 cf_X3_69 (M_X1_settle (p := nI i) ) rfl rfl rfl rfl (by decide) rfl (Nat.le_of_ble_eq_true rfl) (pc' := 22) rfl ?_
  refine g_aload_n (i := 0) h dX3_drag_22 rfl rfl (pc' := 23) rfl ?_
  refine gf_X3_21 h dX3_drag_23 (pc' := 26) rfl ?_
  refine g_callV1 (q0 := 2) h dX3_drag_26 cf_X3_109 (M_X1_fallenCount  ) rfl rfl rfl rfl (by decide) rfl (Nat.le_of_ble_eq_true rfl) (pc' := 29) rfl ?_
  exact g_iret h hr dX3_drag_29 rfl rfl
set_option maxRecDepth 20000 in
set_option maxHeartbeats 4000000 in
theorem M_rounds {Z : ZT} {m : Nat} {toll : Int32} {paid : Int32} {coin : Nat → Int32} {debt : Nat → Int32} {fall : Nat → Int32} {shr : Nat → Int64} {mat : Nat → Int64} {rgt : Nat → Int64} {pen : Int32} {last : Int32} {below : Int64}    : MM Z yX3_rounds cX3_rounds 1 (some .int) 6 [.ref (Z.2.2 0)] (wC Z (nI m) toll paid coin debt fall shr mat rgt pen last below) (some (.int ((cst toll (-1) coin debt fall shr mat rgt).2.2.2.2.1))) (wC Z (nI m) toll paid coin debt ((cst toll (-1) coin debt fall shr mat rgt).1) ((cst toll (-1) coin debt fall shr mat rgt).2.1) ((cst toll (-1) coin debt fall shr mat rgt).2.2.1) ((cst toll (-1) coin debt fall shr mat rgt).2.2.2.1) (-1) ((cst toll (-1) coin debt fall shr mat rgt).2.2.2.2.1) ((cst toll (-1) coin debt fall shr mat rgt).2.2.2.2.2)) := by
  refine MM.intro (by decide) [some (.ref (Z.2.2 0))] rfl (Nat.le_of_ble_eq_true rfl) (fun X (h : OK Z X cX3_rounds RX3 1 (rmd 6)) hr => ?_)
  refine g_aload_n (i := 0) h dX3_rounds_0 rfl rfl (pc' := 1) rfl ?_
  refine gf_X3_21 h dX3_rounds_1 (pc' := 4) rfl ?_
  refine g_iconst (v := (-1)) h dX3_rounds_4 (by decide) (pc' := 5) rfl ?_
  refine g_callV0 (q0 := 2) h dX3_rounds_5 cf_X3_69 (M_X1_settle (p := (-1)) ) rfl rfl rfl rfl (by decide) rfl (Nat.le_of_ble_eq_true rfl) (pc' := 8) rfl ?_
  refine g_aload_n (i := 0) h dX3_rounds_8 rfl rfl (pc' := 9) rfl ?_
  refine gf_X3_21 h dX3_rounds_9 (pc' := 12) rfl ?_
  refine gf_X3_75 h dX3_rounds_12 (pc' := 15) rfl ?_
  exact g_iret h hr dX3_rounds_15 rfl rfl
set_option maxRecDepth 20000 in
set_option maxHeartbeats 4000000 in
theorem M_debt_U {Z : ZT} {m : Nat} {toll : Int32} {paid : Int32} {coin : Nat → Int32} {debt : Nat → Int32} {fall : Nat → Int32} {shr : Nat → Int64} {mat : Nat → Int64} {rgt : Nat → Int64} {pen : Int32} {last : Int32} {below : Int64} {i : Int32} {j : Int32}  (g0 : ¬ (¬ i < 0 ∧ ¬ nI m ≤ i)) : MM Z yX3_debt cX3_debt 3 (some .int) 2 [.ref (Z.2.2 0), .int i, .int j] (wC Z (nI m) toll paid coin debt fall shr mat rgt pen last below) (some (.int (-101))) (wC Z (nI m) toll paid coin debt fall shr mat rgt pen last below) := by
  refine MM.intro (by decide) [some (.ref (Z.2.2 0)), some (.int i), some (.int j)] rfl (Nat.le_of_ble_eq_true rfl) (fun X (h : OK Z X cX3_debt RX3 3 (rmd 2)) hr => ?_)
  refine g_aload_n (i := 0) h dX3_debt_0 rfl rfl (pc' := 1) rfl ?_
  refine gf_X3_10 h dX3_debt_1 (pc' := 4) rfl ?_
  refine g_iload_n (i := 1) h dX3_debt_4 rfl rfl (pc' := 5) rfl ?_
  refine g_callV1 (q0 := 1) h dX3_debt_5 cf_X3_36 (M_X0_isHouse (i := i) ) rfl rfl rfl rfl (by decide) rfl (Nat.le_of_ble_eq_true rfl) (pc' := 8) rfl ?_
  refine g_if_eqT (tg := 22) h dX3_debt_8 (by decide) (bI_n g0) ?_
  refine g_bipush (v := (-101)) h dX3_debt_22 (by decide) (pc' := 24) rfl ?_
  exact g_iret h hr dX3_debt_24 rfl rfl
set_option maxRecDepth 20000 in
set_option maxHeartbeats 4000000 in
theorem M_debt_UP {Z : ZT} {m : Nat} {toll : Int32} {paid : Int32} {coin : Nat → Int32} {debt : Nat → Int32} {fall : Nat → Int32} {shr : Nat → Int64} {mat : Nat → Int64} {rgt : Nat → Int64} {pen : Int32} {last : Int32} {below : Int64} {i : Nat} {j : Int32}  (g0 : i < m) (g1 : m ≤ 4) (g2 : ¬ (¬ j < 0 ∧ ¬ nI m < j)) : MM Z yX3_debt cX3_debt 3 (some .int) 2 [.ref (Z.2.2 0), .int (nI i), .int j] (wC Z (nI m) toll paid coin debt fall shr mat rgt pen last below) (some (.int (-101))) (wC Z (nI m) toll paid coin debt fall shr mat rgt pen last below) := by
  refine MM.intro (by decide) [some (.ref (Z.2.2 0)), some (.int (nI i)), some (.int j)] rfl (Nat.le_of_ble_eq_true rfl) (fun X (h : OK Z X cX3_debt RX3 3 (rmd 2)) hr => ?_)
  refine g_aload_n (i := 0) h dX3_debt_0 rfl rfl (pc' := 1) rfl ?_
  refine gf_X3_10 h dX3_debt_1 (pc' := 4) rfl ?_
  refine g_iload_n (i := 1) h dX3_debt_4 rfl rfl (pc' := 5) rfl ?_
  refine g_callV1 (q0 := 1) h dX3_debt_5 cf_X3_36 (M_X0_isHouse (i := nI i) ) rfl rfl rfl rfl (by decide) rfl (Nat.le_of_ble_eq_true rfl) (pc' := 8) rfl ?_
  refine g_if_eqF (tg := 22) h dX3_debt_8 (by decide) (pc' := 11) rfl (fun q => (bI_0.mp q) (hsO g0 g1)) ?_
  refine g_aload_n (i := 0) h dX3_debt_11 rfl rfl (pc' := 12) rfl ?_
  refine gf_X3_10 h dX3_debt_12 (pc' := 15) rfl ?_
  refine g_iload_n (i := 2) h dX3_debt_15 rfl rfl (pc' := 16) rfl ?_
  refine g_callV1 (q0 := 1) h dX3_debt_16 cf_X3_48 (M_X0_isPayee (i := j) ) rfl rfl rfl rfl (by decide) rfl (Nat.le_of_ble_eq_true rfl) (pc' := 19) rfl ?_
  refine g_if_neF (tg := 25) h dX3_debt_19 (by decide) (pc' := 22) rfl (bI_n g2) ?_
  refine g_bipush (v := (-101)) h dX3_debt_22 (by decide) (pc' := 24) rfl ?_
  exact g_iret h hr dX3_debt_24 rfl rfl
set_option maxRecDepth 20000 in
set_option maxHeartbeats 4000000 in
theorem M_debt {Z : ZT} {m : Nat} {toll : Int32} {paid : Int32} {coin : Nat → Int32} {debt : Nat → Int32} {fall : Nat → Int32} {shr : Nat → Int64} {mat : Nat → Int64} {rgt : Nat → Int64} {pen : Int32} {last : Int32} {below : Int64} {i : Nat} {j : Nat}  (g0 : i < m) (g1 : m ≤ 4) (g2 : j ≤ m) : MM Z yX3_debt cX3_debt 3 (some .int) 2 [.ref (Z.2.2 0), .int (nI i), .int (nI j)] (wC Z (nI m) toll paid coin debt fall shr mat rgt pen last below) (some (.int (debt (i * 5 + cm m j)))) (wC Z (nI m) toll paid coin debt fall shr mat rgt pen last below) := by
  refine MM.intro (by decide) [some (.ref (Z.2.2 0)), some (.int (nI i)), some (.int (nI j))] rfl (Nat.le_of_ble_eq_true rfl) (fun X (h : OK Z X cX3_debt RX3 3 (rmd 2)) hr => ?_)
  refine g_aload_n (i := 0) h dX3_debt_0 rfl rfl (pc' := 1) rfl ?_
  refine gf_X3_10 h dX3_debt_1 (pc' := 4) rfl ?_
  refine g_iload_n (i := 1) h dX3_debt_4 rfl rfl (pc' := 5) rfl ?_
  refine g_callV1 (q0 := 1) h dX3_debt_5 cf_X3_36 (M_X0_isHouse (i := nI i) ) rfl rfl rfl rfl (by decide) rfl (Nat.le_of_ble_eq_true rfl) (pc' := 8) rfl ?_
  refine g_if_eqF (tg := 22) h dX3_debt_8 (by decide) (pc' := 11) rfl (fun q => (bI_0.mp q) (hsO g0 g1)) ?_
  refine g_aload_n (i := 0) h dX3_debt_11 rfl rfl (pc' := 12) rfl ?_
  refine gf_X3_10 h dX3_debt_12 (pc' := 15) rfl ?_
  refine g_iload_n (i := 2) h dX3_debt_15 rfl rfl (pc' := 16) rfl ?_
  refine g_callV1 (q0 := 1) h dX3_debt_16 cf_X3_48 (M_X0_isPayee (i := nI j) ) rfl rfl rfl rfl (by decide) rfl (Nat.le_of_ble_eq_true rfl) (pc' := 19) rfl ?_
  refine g_if_neT (tg := 25) h dX3_debt_19 (by decide) (fun q => (bI_0.mp q) (hpO g2 g1)) ?_
  refine g_aload_n (i := 0) h dX3_debt_25 rfl rfl (pc' := 26) rfl ?_
  refine gf_X3_10 h dX3_debt_26 (pc' := 29) rfl ?_
  refine g_iload_n (i := 1) h dX3_debt_29 rfl rfl (pc' := 30) rfl ?_
  refine g_aload_n (i := 0) h dX3_debt_30 rfl rfl (pc' := 31) rfl ?_
  refine gf_X3_10 h dX3_debt_31 (pc' := 34) rfl ?_
  refine g_iload_n (i := 2) h dX3_debt_34 rfl rfl (pc' := 35) rfl ?_
  refine g_callV1 (q0 := 1) h dX3_debt_35 cf_X3_51 (M_X0_columnOf_N (i := j) g2 g1) rfl rfl rfl rfl (by decide) rfl (Nat.le_of_ble_eq_true rfl) (pc' := 38) rfl ?_
  refine g_callV1 (q0 := 1) h dX3_debt_38 cf_X3_54 (M_X0_owed (i := i) (c := cm m j) (by omega) (col_lt g2 g1)) rfl rfl rfl rfl (by decide) rfl (Nat.le_of_ble_eq_true rfl) (pc' := 41) rfl ?_
  exact g_iret h hr dX3_debt_41 rfl rfl
set_option maxRecDepth 20000 in
set_option maxHeartbeats 4000000 in
theorem M_share_U {Z : ZT} {m : Nat} {toll : Int32} {paid : Int32} {coin : Nat → Int32} {debt : Nat → Int32} {fall : Nat → Int32} {shr : Nat → Int64} {mat : Nat → Int64} {rgt : Nat → Int64} {pen : Int32} {last : Int32} {below : Int64} {i : Int32} {part : Int32}  (g0 : ¬ (¬ i < 0 ∧ ¬ nI m ≤ i)) : MM Z yX3_share cX3_share 3 (some .long) 6 [.ref (Z.2.2 0), .int i, .int part] (wC Z (nI m) toll paid coin debt fall shr mat rgt pen last below) (some (.long (-101))) (wC Z (nI m) toll paid coin debt fall shr mat rgt pen last below) := by
  refine MM.intro (by decide) [some (.ref (Z.2.2 0)), some (.int i), some (.int part)] rfl (Nat.le_of_ble_eq_true rfl) (fun X (h : OK Z X cX3_share RX3 3 (rmd 6)) hr => ?_)
  refine g_aload_n (i := 0) h dX3_share_0 rfl rfl (pc' := 1) rfl ?_
  refine gf_X3_10 h dX3_share_1 (pc' := 4) rfl ?_
  refine g_iload_n (i := 1) h dX3_share_4 rfl rfl (pc' := 5) rfl ?_
  refine g_callV1 (q0 := 1) h dX3_share_5 cf_X3_36 (M_X0_isHouse (i := i) ) rfl rfl rfl rfl (by decide) rfl (Nat.le_of_ble_eq_true rfl) (pc' := 8) rfl ?_
  refine g_if_neF (tg := 15) h dX3_share_8 (by decide) (pc' := 11) rfl (bI_n g0) ?_
  refine g_ldc2 h dX3_share_11 co_X3_78 (pc' := 14) rfl ?_
  exact g_lret h hr dX3_share_14 rfl rfl
set_option maxRecDepth 20000 in
set_option maxHeartbeats 4000000 in
theorem M_share_O {Z : ZT} {m : Nat} {toll : Int32} {paid : Int32} {coin : Nat → Int32} {debt : Nat → Int32} {fall : Nat → Int32} {shr : Nat → Int64} {mat : Nat → Int64} {rgt : Nat → Int64} {pen : Int32} {last : Int32} {below : Int64} {i : Nat} {part : Int32}  (g0 : i < m) (g1 : m ≤ 4) (g2 : ¬ (part = 0 ∨ part = nI 1)) : MM Z yX3_share cX3_share 3 (some .long) 6 [.ref (Z.2.2 0), .int (nI i), .int part] (wC Z (nI m) toll paid coin debt fall shr mat rgt pen last below) (some (.long (-102))) (wC Z (nI m) toll paid coin debt fall shr mat rgt pen last below) := by
  refine MM.intro (by decide) [some (.ref (Z.2.2 0)), some (.int (nI i)), some (.int part)] rfl (Nat.le_of_ble_eq_true rfl) (fun X (h : OK Z X cX3_share RX3 3 (rmd 6)) hr => ?_)
  refine g_aload_n (i := 0) h dX3_share_0 rfl rfl (pc' := 1) rfl ?_
  refine gf_X3_10 h dX3_share_1 (pc' := 4) rfl ?_
  refine g_iload_n (i := 1) h dX3_share_4 rfl rfl (pc' := 5) rfl ?_
  refine g_callV1 (q0 := 1) h dX3_share_5 cf_X3_36 (M_X0_isHouse (i := nI i) ) rfl rfl rfl rfl (by decide) rfl (Nat.le_of_ble_eq_true rfl) (pc' := 8) rfl ?_
  refine g_if_neT (tg := 15) h dX3_share_8 (by decide) (fun q => (bI_0.mp q) (hsO g0 g1)) ?_
  refine g_iload_n (i := 2) h dX3_share_15 rfl rfl (pc' := 16) rfl ?_
  refine g_callS1 h dX3_share_16 cf_X3_80 (M_X3_isPart (p := part) ) rfl (by decide) rfl (Nat.le_of_ble_eq_true rfl) (pc' := 19) rfl ?_
  refine g_if_neF (tg := 26) h dX3_share_19 (by decide) (pc' := 22) rfl (bI_n g2) ?_
  refine g_ldc2 h dX3_share_22 co_X3_83 (pc' := 25) rfl ?_
  exact g_lret h hr dX3_share_25 rfl rfl
set_option maxRecDepth 20000 in
set_option maxHeartbeats 4000000 in
theorem M_share {Z : ZT} {m : Nat} {toll : Int32} {paid : Int32} {coin : Nat → Int32} {debt : Nat → Int32} {fall : Nat → Int32} {shr : Nat → Int64} {mat : Nat → Int64} {rgt : Nat → Int64} {pen : Int32} {last : Int32} {below : Int64} {i : Nat} {part : Int32}  (g0 : i < m) (g1 : m ≤ 4) (g2 : part = 0 ∨ part = nI 1) : MM Z yX3_share cX3_share 3 (some .long) 6 [.ref (Z.2.2 0), .int (nI i), .int part] (wC Z (nI m) toll paid coin debt fall shr mat rgt pen last below) (some (.long (lT ((cst toll (-1) coin debt fall shr mat rgt).2.1 i) (cst toll (-1) coin debt fall shr mat rgt).2.2.2.2.2 part))) (wC Z (nI m) toll paid coin debt ((cst toll (-1) coin debt fall shr mat rgt).1) ((cst toll (-1) coin debt fall shr mat rgt).2.1) ((cst toll (-1) coin debt fall shr mat rgt).2.2.1) ((cst toll (-1) coin debt fall shr mat rgt).2.2.2.1) (-1) ((cst toll (-1) coin debt fall shr mat rgt).2.2.2.2.1) ((cst toll (-1) coin debt fall shr mat rgt).2.2.2.2.2)) := by
  refine MM.intro (by decide) [some (.ref (Z.2.2 0)), some (.int (nI i)), some (.int part)] rfl (Nat.le_of_ble_eq_true rfl) (fun X (h : OK Z X cX3_share RX3 3 (rmd 6)) hr => ?_)
  refine g_aload_n (i := 0) h dX3_share_0 rfl rfl (pc' := 1) rfl ?_
  refine gf_X3_10 h dX3_share_1 (pc' := 4) rfl ?_
  refine g_iload_n (i := 1) h dX3_share_4 rfl rfl (pc' := 5) rfl ?_
  refine g_callV1 (q0 := 1) h dX3_share_5 cf_X3_36 (M_X0_isHouse (i := nI i) ) rfl rfl rfl rfl (by decide) rfl (Nat.le_of_ble_eq_true rfl) (pc' := 8) rfl ?_
  refine g_if_neT (tg := 15) h dX3_share_8 (by decide) (fun q => (bI_0.mp q) (hsO g0 g1)) ?_
  refine g_iload_n (i := 2) h dX3_share_15 rfl rfl (pc' := 16) rfl ?_
  refine g_callS1 h dX3_share_16 cf_X3_80 (M_X3_isPart (p := part) ) rfl (by decide) rfl (Nat.le_of_ble_eq_true rfl) (pc' := 19) rfl ?_
  refine g_if_neT (tg := 26) h dX3_share_19 (by decide) (fun q => (bI_0.mp q) g2) ?_
  refine g_aload_n (i := 0) h dX3_share_26 rfl rfl (pc' := 27) rfl ?_
  refine gf_X3_21 h dX3_share_27 (pc' := 30) rfl ?_
  refine g_iconst (v := (-1)) h dX3_share_30 (by decide) (pc' := 31) rfl ?_
  refine g_callV0 (q0 := 2) h dX3_share_31 cf_X3_69 (M_X1_settle (p := (-1)) ) rfl rfl rfl rfl (by decide) rfl (Nat.le_of_ble_eq_true rfl) (pc' := 34) rfl ?_
  refine g_aload_n (i := 0) h dX3_share_34 rfl rfl (pc' := 35) rfl ?_
  refine gf_X3_21 h dX3_share_35 (pc' := 38) rfl ?_
  refine g_iload_n (i := 1) h dX3_share_38 rfl rfl (pc' := 39) rfl ?_
  refine g_callV1 (q0 := 2) h dX3_share_39 cf_X3_85 (M_X1_shareAbove (i := i) (by omega)) rfl rfl rfl rfl (by decide) rfl (Nat.le_of_ble_eq_true rfl) (pc' := 42) rfl ?_
  refine g_aload_n (i := 0) h dX3_share_42 rfl rfl (pc' := 43) rfl ?_
  refine gf_X3_21 h dX3_share_43 (pc' := 46) rfl ?_
  refine gf_X3_89 h dX3_share_46 (pc' := 49) rfl ?_
  refine g_iload_n (i := 2) h dX3_share_49 rfl rfl (pc' := 50) rfl ?_
  refine g_callS1 h dX3_share_50 cf_X3_93 (M_X3_lowestTerms (a := ((cst toll (-1) coin debt fall shr mat rgt).2.1) i) (b := (cst toll (-1) coin debt fall shr mat rgt).2.2.2.2.2) (p := part) ) rfl (by decide) rfl (Nat.le_of_ble_eq_true rfl) (pc' := 53) rfl ?_
  exact g_lret h hr dX3_share_53 rfl rfl
set_option maxRecDepth 20000 in
set_option maxHeartbeats 4000000 in
theorem M_gross_U {Z : ZT} {m : Nat} {toll : Int32} {paid : Int32} {coin : Nat → Int32} {debt : Nat → Int32} {fall : Nat → Int32} {shr : Nat → Int64} {mat : Nat → Int64} {rgt : Nat → Int64} {pen : Int32} {last : Int32} {below : Int64} {i : Int32} {part : Int32}  (g0 : ¬ (¬ i < 0 ∧ ¬ nI m ≤ i)) : MM Z yX3_gross cX3_gross 3 (some .long) 6 [.ref (Z.2.2 0), .int i, .int part] (wC Z (nI m) toll paid coin debt fall shr mat rgt pen last below) (some (.long (-101))) (wC Z (nI m) toll paid coin debt fall shr mat rgt pen last below) := by
  refine MM.intro (by decide) [some (.ref (Z.2.2 0)), some (.int i), some (.int part)] rfl (Nat.le_of_ble_eq_true rfl) (fun X (h : OK Z X cX3_gross RX3 3 (rmd 6)) hr => ?_)
  refine g_aload_n (i := 0) h dX3_gross_0 rfl rfl (pc' := 1) rfl ?_
  refine gf_X3_10 h dX3_gross_1 (pc' := 4) rfl ?_
  refine g_iload_n (i := 1) h dX3_gross_4 rfl rfl (pc' := 5) rfl ?_
  refine g_callV1 (q0 := 1) h dX3_gross_5 cf_X3_36 (M_X0_isHouse (i := i) ) rfl rfl rfl rfl (by decide) rfl (Nat.le_of_ble_eq_true rfl) (pc' := 8) rfl ?_
  refine g_if_neF (tg := 15) h dX3_gross_8 (by decide) (pc' := 11) rfl (bI_n g0) ?_
  refine g_ldc2 h dX3_gross_11 co_X3_78 (pc' := 14) rfl ?_
  exact g_lret h hr dX3_gross_14 rfl rfl
set_option maxRecDepth 20000 in
set_option maxHeartbeats 4000000 in
theorem M_gross_O {Z : ZT} {m : Nat} {toll : Int32} {paid : Int32} {coin : Nat → Int32} {debt : Nat → Int32} {fall : Nat → Int32} {shr : Nat → Int64} {mat : Nat → Int64} {rgt : Nat → Int64} {pen : Int32} {last : Int32} {below : Int64} {i : Nat} {part : Int32}  (g0 : i < m) (g1 : m ≤ 4) (g2 : ¬ (part = 0 ∨ part = nI 1)) : MM Z yX3_gross cX3_gross 3 (some .long) 6 [.ref (Z.2.2 0), .int (nI i), .int part] (wC Z (nI m) toll paid coin debt fall shr mat rgt pen last below) (some (.long (-102))) (wC Z (nI m) toll paid coin debt fall shr mat rgt pen last below) := by
  refine MM.intro (by decide) [some (.ref (Z.2.2 0)), some (.int (nI i)), some (.int part)] rfl (Nat.le_of_ble_eq_true rfl) (fun X (h : OK Z X cX3_gross RX3 3 (rmd 6)) hr => ?_)
  refine g_aload_n (i := 0) h dX3_gross_0 rfl rfl (pc' := 1) rfl ?_
  refine gf_X3_10 h dX3_gross_1 (pc' := 4) rfl ?_
  refine g_iload_n (i := 1) h dX3_gross_4 rfl rfl (pc' := 5) rfl ?_
  refine g_callV1 (q0 := 1) h dX3_gross_5 cf_X3_36 (M_X0_isHouse (i := nI i) ) rfl rfl rfl rfl (by decide) rfl (Nat.le_of_ble_eq_true rfl) (pc' := 8) rfl ?_
  refine g_if_neT (tg := 15) h dX3_gross_8 (by decide) (fun q => (bI_0.mp q) (hsO g0 g1)) ?_
  refine g_iload_n (i := 2) h dX3_gross_15 rfl rfl (pc' := 16) rfl ?_
  refine g_callS1 h dX3_gross_16 cf_X3_80 (M_X3_isPart (p := part) ) rfl (by decide) rfl (Nat.le_of_ble_eq_true rfl) (pc' := 19) rfl ?_
  refine g_if_neF (tg := 26) h dX3_gross_19 (by decide) (pc' := 22) rfl (bI_n g2) ?_
  refine g_ldc2 h dX3_gross_22 co_X3_83 (pc' := 25) rfl ?_
  exact g_lret h hr dX3_gross_25 rfl rfl
set_option maxRecDepth 20000 in
set_option maxHeartbeats 4000000 in
theorem M_gross {Z : ZT} {m : Nat} {toll : Int32} {paid : Int32} {coin : Nat → Int32} {debt : Nat → Int32} {fall : Nat → Int32} {shr : Nat → Int64} {mat : Nat → Int64} {rgt : Nat → Int64} {pen : Int32} {last : Int32} {below : Int64} {i : Nat} {part : Int32}  (g0 : i < m) (g1 : m ≤ 4) (g2 : part = 0 ∨ part = nI 1) : MM Z yX3_gross cX3_gross 3 (some .long) 6 [.ref (Z.2.2 0), .int (nI i), .int part] (wC Z (nI m) toll paid coin debt fall shr mat rgt pen last below) (some (.long (lT ((gA (cst toll (-1) coin debt fall shr mat rgt).2.2.2.2.2 (-1) coin debt (cst toll (-1) coin debt fall shr mat rgt).2.1 i 4)) (cst toll (-1) coin debt fall shr mat rgt).2.2.2.2.2 part))) (wC Z (nI m) toll paid coin debt ((cst toll (-1) coin debt fall shr mat rgt).1) ((cst toll (-1) coin debt fall shr mat rgt).2.1) ((cst toll (-1) coin debt fall shr mat rgt).2.2.1) ((cst toll (-1) coin debt fall shr mat rgt).2.2.2.1) (-1) ((cst toll (-1) coin debt fall shr mat rgt).2.2.2.2.1) ((cst toll (-1) coin debt fall shr mat rgt).2.2.2.2.2)) := by
  refine MM.intro (by decide) [some (.ref (Z.2.2 0)), some (.int (nI i)), some (.int part)] rfl (Nat.le_of_ble_eq_true rfl) (fun X (h : OK Z X cX3_gross RX3 3 (rmd 6)) hr => ?_)
  refine g_aload_n (i := 0) h dX3_gross_0 rfl rfl (pc' := 1) rfl ?_
  refine gf_X3_10 h dX3_gross_1 (pc' := 4) rfl ?_
  refine g_iload_n (i := 1) h dX3_gross_4 rfl rfl (pc' := 5) rfl ?_
  refine g_callV1 (q0 := 1) h dX3_gross_5 cf_X3_36 (M_X0_isHouse (i := nI i) ) rfl rfl rfl rfl (by decide) rfl (Nat.le_of_ble_eq_true rfl) (pc' := 8) rfl ?_
  refine g_if_neT (tg := 15) h dX3_gross_8 (by decide) (fun q => (bI_0.mp q) (hsO g0 g1)) ?_
  refine g_iload_n (i := 2) h dX3_gross_15 rfl rfl (pc' := 16) rfl ?_
  refine g_callS1 h dX3_gross_16 cf_X3_80 (M_X3_isPart (p := part) ) rfl (by decide) rfl (Nat.le_of_ble_eq_true rfl) (pc' := 19) rfl ?_
  refine g_if_neT (tg := 26) h dX3_gross_19 (by decide) (fun q => (bI_0.mp q) g2) ?_
  refine g_aload_n (i := 0) h dX3_gross_26 rfl rfl (pc' := 27) rfl ?_
  refine gf_X3_21 h dX3_gross_27 (pc' := 30) rfl ?_
  refine g_iconst (v := (-1)) h dX3_gross_30 (by decide) (pc' := 31) rfl ?_
  refine g_callV0 (q0 := 2) h dX3_gross_31 cf_X3_69 (M_X1_settle (p := (-1)) ) rfl rfl rfl rfl (by decide) rfl (Nat.le_of_ble_eq_true rfl) (pc' := 34) rfl ?_
  refine g_aload_n (i := 0) h dX3_gross_34 rfl rfl (pc' := 35) rfl ?_
  refine gf_X3_21 h dX3_gross_35 (pc' := 38) rfl ?_
  refine g_iload_n (i := 1) h dX3_gross_38 rfl rfl (pc' := 39) rfl ?_
  refine g_callV1 (q0 := 2) h dX3_gross_39 cf_X3_97 (M_X1_grossAbove (i := i) (by omega)) rfl rfl rfl rfl (by decide) rfl (Nat.le_of_ble_eq_true rfl) (pc' := 42) rfl ?_
  refine g_aload_n (i := 0) h dX3_gross_42 rfl rfl (pc' := 43) rfl ?_
  refine gf_X3_21 h dX3_gross_43 (pc' := 46) rfl ?_
  refine gf_X3_89 h dX3_gross_46 (pc' := 49) rfl ?_
  refine g_iload_n (i := 2) h dX3_gross_49 rfl rfl (pc' := 50) rfl ?_
  refine g_callS1 h dX3_gross_50 cf_X3_93 (M_X3_lowestTerms (a := gA ((cst toll (-1) coin debt fall shr mat rgt).2.2.2.2.2) (-1) coin debt ((cst toll (-1) coin debt fall shr mat rgt).2.1) i 4) (b := (cst toll (-1) coin debt fall shr mat rgt).2.2.2.2.2) (p := part) ) rfl (by decide) rfl (Nat.le_of_ble_eq_true rfl) (pc' := 53) rfl ?_
  exact g_lret h hr dX3_gross_53 rfl rfl
set_option maxRecDepth 20000 in
set_option maxHeartbeats 4000000 in
theorem M_left_U {Z : ZT} {m : Nat} {toll : Int32} {paid : Int32} {coin : Nat → Int32} {debt : Nat → Int32} {fall : Nat → Int32} {shr : Nat → Int64} {mat : Nat → Int64} {rgt : Nat → Int64} {pen : Int32} {last : Int32} {below : Int64} {i : Int32} {part : Int32}  (g0 : ¬ (¬ i < 0 ∧ ¬ nI m ≤ i)) : MM Z yX3_left cX3_left 3 (some .long) 6 [.ref (Z.2.2 0), .int i, .int part] (wC Z (nI m) toll paid coin debt fall shr mat rgt pen last below) (some (.long (-101))) (wC Z (nI m) toll paid coin debt fall shr mat rgt pen last below) := by
  refine MM.intro (by decide) [some (.ref (Z.2.2 0)), some (.int i), some (.int part)] rfl (Nat.le_of_ble_eq_true rfl) (fun X (h : OK Z X cX3_left RX3 3 (rmd 6)) hr => ?_)
  refine g_aload_n (i := 0) h dX3_left_0 rfl rfl (pc' := 1) rfl ?_
  refine gf_X3_10 h dX3_left_1 (pc' := 4) rfl ?_
  refine g_iload_n (i := 1) h dX3_left_4 rfl rfl (pc' := 5) rfl ?_
  refine g_callV1 (q0 := 1) h dX3_left_5 cf_X3_36 (M_X0_isHouse (i := i) ) rfl rfl rfl rfl (by decide) rfl (Nat.le_of_ble_eq_true rfl) (pc' := 8) rfl ?_
  refine g_if_neF (tg := 15) h dX3_left_8 (by decide) (pc' := 11) rfl (bI_n g0) ?_
  refine g_ldc2 h dX3_left_11 co_X3_78 (pc' := 14) rfl ?_
  exact g_lret h hr dX3_left_14 rfl rfl
set_option maxRecDepth 20000 in
set_option maxHeartbeats 4000000 in
theorem M_left_O {Z : ZT} {m : Nat} {toll : Int32} {paid : Int32} {coin : Nat → Int32} {debt : Nat → Int32} {fall : Nat → Int32} {shr : Nat → Int64} {mat : Nat → Int64} {rgt : Nat → Int64} {pen : Int32} {last : Int32} {below : Int64} {i : Nat} {part : Int32}  (g0 : i < m) (g1 : m ≤ 4) (g2 : ¬ (part = 0 ∨ part = nI 1)) : MM Z yX3_left cX3_left 3 (some .long) 6 [.ref (Z.2.2 0), .int (nI i), .int part] (wC Z (nI m) toll paid coin debt fall shr mat rgt pen last below) (some (.long (-102))) (wC Z (nI m) toll paid coin debt fall shr mat rgt pen last below) := by
  refine MM.intro (by decide) [some (.ref (Z.2.2 0)), some (.int (nI i)), some (.int part)] rfl (Nat.le_of_ble_eq_true rfl) (fun X (h : OK Z X cX3_left RX3 3 (rmd 6)) hr => ?_)
  refine g_aload_n (i := 0) h dX3_left_0 rfl rfl (pc' := 1) rfl ?_
  refine gf_X3_10 h dX3_left_1 (pc' := 4) rfl ?_
  refine g_iload_n (i := 1) h dX3_left_4 rfl rfl (pc' := 5) rfl ?_
  refine g_callV1 (q0 := 1) h dX3_left_5 cf_X3_36 (M_X0_isHouse (i := nI i) ) rfl rfl rfl rfl (by decide) rfl (Nat.le_of_ble_eq_true rfl) (pc' := 8) rfl ?_
  refine g_if_neT (tg := 15) h dX3_left_8 (by decide) (fun q => (bI_0.mp q) (hsO g0 g1)) ?_
  refine g_iload_n (i := 2) h dX3_left_15 rfl rfl (pc' := 16) rfl ?_
  refine g_callS1 h dX3_left_16 cf_X3_80 (M_X3_isPart (p := part) ) rfl (by decide) rfl (Nat.le_of_ble_eq_true rfl) (pc' := 19) rfl ?_
  refine g_if_neF (tg := 26) h dX3_left_19 (by decide) (pc' := 22) rfl (bI_n g2) ?_
  refine g_ldc2 h dX3_left_22 co_X3_83 (pc' := 25) rfl ?_
  exact g_lret h hr dX3_left_25 rfl rfl
set_option maxRecDepth 20000 in
set_option maxHeartbeats 4000000 in
theorem M_left {Z : ZT} {m : Nat} {toll : Int32} {paid : Int32} {coin : Nat → Int32} {debt : Nat → Int32} {fall : Nat → Int32} {shr : Nat → Int64} {mat : Nat → Int64} {rgt : Nat → Int64} {pen : Int32} {last : Int32} {below : Int64} {i : Nat} {part : Int32}  (g0 : i < m) (g1 : m ≤ 4) (g2 : part = 0 ∨ part = nI 1) : MM Z yX3_left cX3_left 3 (some .long) 6 [.ref (Z.2.2 0), .int (nI i), .int part] (wC Z (nI m) toll paid coin debt fall shr mat rgt pen last below) (some (.long (lT ((if fl (cst toll (-1) coin debt fall shr mat rgt).1 i then 0 else gA (cst toll (-1) coin debt fall shr mat rgt).2.2.2.2.2 (-1) coin debt (cst toll (-1) coin debt fall shr mat rgt).2.1 i 4 - (cst toll (-1) coin debt fall shr mat rgt).2.2.2.2.2 * (oB debt i).toInt64)) (cst toll (-1) coin debt fall shr mat rgt).2.2.2.2.2 part))) (wC Z (nI m) toll paid coin debt ((cst toll (-1) coin debt fall shr mat rgt).1) ((cst toll (-1) coin debt fall shr mat rgt).2.1) ((cst toll (-1) coin debt fall shr mat rgt).2.2.1) ((cst toll (-1) coin debt fall shr mat rgt).2.2.2.1) (-1) ((cst toll (-1) coin debt fall shr mat rgt).2.2.2.2.1) ((cst toll (-1) coin debt fall shr mat rgt).2.2.2.2.2)) := by
  refine MM.intro (by decide) [some (.ref (Z.2.2 0)), some (.int (nI i)), some (.int part)] rfl (Nat.le_of_ble_eq_true rfl) (fun X (h : OK Z X cX3_left RX3 3 (rmd 6)) hr => ?_)
  refine g_aload_n (i := 0) h dX3_left_0 rfl rfl (pc' := 1) rfl ?_
  refine gf_X3_10 h dX3_left_1 (pc' := 4) rfl ?_
  refine g_iload_n (i := 1) h dX3_left_4 rfl rfl (pc' := 5) rfl ?_
  refine g_callV1 (q0 := 1) h dX3_left_5 cf_X3_36 (M_X0_isHouse (i := nI i) ) rfl rfl rfl rfl (by decide) rfl (Nat.le_of_ble_eq_true rfl) (pc' := 8) rfl ?_
  refine g_if_neT (tg := 15) h dX3_left_8 (by decide) (fun q => (bI_0.mp q) (hsO g0 g1)) ?_
  refine g_iload_n (i := 2) h dX3_left_15 rfl rfl (pc' := 16) rfl ?_
  refine g_callS1 h dX3_left_16 cf_X3_80 (M_X3_isPart (p := part) ) rfl (by decide) rfl (Nat.le_of_ble_eq_true rfl) (pc' := 19) rfl ?_
  refine g_if_neT (tg := 26) h dX3_left_19 (by decide) (fun q => (bI_0.mp q) g2) ?_
  refine g_aload_n (i := 0) h dX3_left_26 rfl rfl (pc' := 27) rfl ?_
  refine gf_X3_21 h dX3_left_27 (pc' := 30) rfl ?_
  refine g_iconst (v := (-1)) h dX3_left_30 (by decide) (pc' := 31) rfl ?_
  refine g_callV0 (q0 := 2) h dX3_left_31 cf_X3_69 (M_X1_settle (p := (-1)) ) rfl rfl rfl rfl (by decide) rfl (Nat.le_of_ble_eq_true rfl) (pc' := 34) rfl ?_
  refine g_aload_n (i := 0) h dX3_left_34 rfl rfl (pc' := 35) rfl ?_
  refine gf_X3_21 h dX3_left_35 (pc' := 38) rfl ?_
  refine g_iload_n (i := 1) h dX3_left_38 rfl rfl (pc' := 39) rfl ?_
  refine g_callV1 (q0 := 2) h dX3_left_39 cf_X3_100 (M_X1_leftAbove (i := i) (by omega)) rfl rfl rfl rfl (by decide) rfl (Nat.le_of_ble_eq_true rfl) (pc' := 42) rfl ?_
  refine g_aload_n (i := 0) h dX3_left_42 rfl rfl (pc' := 43) rfl ?_
  refine gf_X3_21 h dX3_left_43 (pc' := 46) rfl ?_
  refine gf_X3_89 h dX3_left_46 (pc' := 49) rfl ?_
  refine g_iload_n (i := 2) h dX3_left_49 rfl rfl (pc' := 50) rfl ?_
  refine g_callS1 h dX3_left_50 cf_X3_93 (M_X3_lowestTerms (a := if fl ((cst toll (-1) coin debt fall shr mat rgt).1) i then 0 else gA ((cst toll (-1) coin debt fall shr mat rgt).2.2.2.2.2) (-1) coin debt ((cst toll (-1) coin debt fall shr mat rgt).2.1) i 4 - ((cst toll (-1) coin debt fall shr mat rgt).2.2.2.2.2) * (oB debt i).toInt64) (b := (cst toll (-1) coin debt fall shr mat rgt).2.2.2.2.2) (p := part) ) rfl (by decide) rfl (Nat.le_of_ble_eq_true rfl) (pc' := 53) rfl ?_
  exact g_lret h hr dX3_left_53 rfl rfl
set_option maxRecDepth 20000 in
set_option maxHeartbeats 4000000 in
theorem M_pays_U {Z : ZT} {m : Nat} {toll : Int32} {paid : Int32} {coin : Nat → Int32} {debt : Nat → Int32} {fall : Nat → Int32} {shr : Nat → Int64} {mat : Nat → Int64} {rgt : Nat → Int64} {pen : Int32} {last : Int32} {below : Int64} {i : Int32} {j : Int32} {part : Int32}  (g0 : ¬ (¬ i < 0 ∧ ¬ nI m ≤ i)) : MM Z yX3_pays cX3_pays 6 (some .long) 6 [.ref (Z.2.2 0), .int i, .int j, .int part] (wC Z (nI m) toll paid coin debt fall shr mat rgt pen last below) (some (.long (-101))) (wC Z (nI m) toll paid coin debt fall shr mat rgt pen last below) := by
  refine MM.intro (by decide) [some (.ref (Z.2.2 0)), some (.int i), some (.int j), some (.int part), none, none] rfl (Nat.le_of_ble_eq_true rfl) (fun X (h : OK Z X cX3_pays RX3 6 (rmd 6)) hr => ?_)
  refine g_aload_n (i := 0) h dX3_pays_0 rfl rfl (pc' := 1) rfl ?_
  refine gf_X3_10 h dX3_pays_1 (pc' := 4) rfl ?_
  refine g_iload_n (i := 1) h dX3_pays_4 rfl rfl (pc' := 5) rfl ?_
  refine g_callV1 (q0 := 1) h dX3_pays_5 cf_X3_36 (M_X0_isHouse (i := i) ) rfl rfl rfl rfl (by decide) rfl (Nat.le_of_ble_eq_true rfl) (pc' := 8) rfl ?_
  refine g_if_eqT (tg := 22) h dX3_pays_8 (by decide) (bI_n g0) ?_
  refine g_ldc2 h dX3_pays_22 co_X3_78 (pc' := 25) rfl ?_
  exact g_lret h hr dX3_pays_25 rfl rfl
set_option maxRecDepth 20000 in
set_option maxHeartbeats 4000000 in
theorem M_pays_UP {Z : ZT} {m : Nat} {toll : Int32} {paid : Int32} {coin : Nat → Int32} {debt : Nat → Int32} {fall : Nat → Int32} {shr : Nat → Int64} {mat : Nat → Int64} {rgt : Nat → Int64} {pen : Int32} {last : Int32} {below : Int64} {i : Nat} {j : Int32} {part : Int32}  (g0 : i < m) (g1 : m ≤ 4) (g2 : ¬ (¬ j < 0 ∧ ¬ nI m < j)) : MM Z yX3_pays cX3_pays 6 (some .long) 6 [.ref (Z.2.2 0), .int (nI i), .int j, .int part] (wC Z (nI m) toll paid coin debt fall shr mat rgt pen last below) (some (.long (-101))) (wC Z (nI m) toll paid coin debt fall shr mat rgt pen last below) := by
  refine MM.intro (by decide) [some (.ref (Z.2.2 0)), some (.int (nI i)), some (.int j), some (.int part), none, none] rfl (Nat.le_of_ble_eq_true rfl) (fun X (h : OK Z X cX3_pays RX3 6 (rmd 6)) hr => ?_)
  refine g_aload_n (i := 0) h dX3_pays_0 rfl rfl (pc' := 1) rfl ?_
  refine gf_X3_10 h dX3_pays_1 (pc' := 4) rfl ?_
  refine g_iload_n (i := 1) h dX3_pays_4 rfl rfl (pc' := 5) rfl ?_
  refine g_callV1 (q0 := 1) h dX3_pays_5 cf_X3_36 (M_X0_isHouse (i := nI i) ) rfl rfl rfl rfl (by decide) rfl (Nat.le_of_ble_eq_true rfl) (pc' := 8) rfl ?_
  refine g_if_eqF (tg := 22) h dX3_pays_8 (by decide) (pc' := 11) rfl (fun q => (bI_0.mp q) (hsO g0 g1)) ?_
  refine g_aload_n (i := 0) h dX3_pays_11 rfl rfl (pc' := 12) rfl ?_
  refine gf_X3_10 h dX3_pays_12 (pc' := 15) rfl ?_
  refine g_iload_n (i := 2) h dX3_pays_15 rfl rfl (pc' := 16) rfl ?_
  refine g_callV1 (q0 := 1) h dX3_pays_16 cf_X3_48 (M_X0_isPayee (i := j) ) rfl rfl rfl rfl (by decide) rfl (Nat.le_of_ble_eq_true rfl) (pc' := 19) rfl ?_
  refine g_if_neF (tg := 26) h dX3_pays_19 (by decide) (pc' := 22) rfl (bI_n g2) ?_
  refine g_ldc2 h dX3_pays_22 co_X3_78 (pc' := 25) rfl ?_
  exact g_lret h hr dX3_pays_25 rfl rfl
set_option maxRecDepth 20000 in
set_option maxHeartbeats 4000000 in
theorem M_pays_O {Z : ZT} {m : Nat} {toll : Int32} {paid : Int32} {coin : Nat → Int32} {debt : Nat → Int32} {fall : Nat → Int32} {shr : Nat → Int64} {mat : Nat → Int64} {rgt : Nat → Int64} {pen : Int32} {last : Int32} {below : Int64} {i : Nat} {j : Nat} {part : Int32}  (g0 : i < m) (g1 : m ≤ 4) (g2 : j ≤ m) (g3 : ¬ (part = 0 ∨ part = nI 1)) : MM Z yX3_pays cX3_pays 6 (some .long) 6 [.ref (Z.2.2 0), .int (nI i), .int (nI j), .int part] (wC Z (nI m) toll paid coin debt fall shr mat rgt pen last below) (some (.long (-102))) (wC Z (nI m) toll paid coin debt fall shr mat rgt pen last below) := by
  refine MM.intro (by decide) [some (.ref (Z.2.2 0)), some (.int (nI i)), some (.int (nI j)), some (.int part), none, none] rfl (Nat.le_of_ble_eq_true rfl) (fun X (h : OK Z X cX3_pays RX3 6 (rmd 6)) hr => ?_)
  refine g_aload_n (i := 0) h dX3_pays_0 rfl rfl (pc' := 1) rfl ?_
  refine gf_X3_10 h dX3_pays_1 (pc' := 4) rfl ?_
  refine g_iload_n (i := 1) h dX3_pays_4 rfl rfl (pc' := 5) rfl ?_
  refine g_callV1 (q0 := 1) h dX3_pays_5 cf_X3_36 (M_X0_isHouse (i := nI i) ) rfl rfl rfl rfl (by decide) rfl (Nat.le_of_ble_eq_true rfl) (pc' := 8) rfl ?_
  refine g_if_eqF (tg := 22) h dX3_pays_8 (by decide) (pc' := 11) rfl (fun q => (bI_0.mp q) (hsO g0 g1)) ?_
  refine g_aload_n (i := 0) h dX3_pays_11 rfl rfl (pc' := 12) rfl ?_
  refine gf_X3_10 h dX3_pays_12 (pc' := 15) rfl ?_
  refine g_iload_n (i := 2) h dX3_pays_15 rfl rfl (pc' := 16) rfl ?_
  refine g_callV1 (q0 := 1) h dX3_pays_16 cf_X3_48 (M_X0_isPayee (i := nI j) ) rfl rfl rfl rfl (by decide) rfl (Nat.le_of_ble_eq_true rfl) (pc' := 19) rfl ?_
  refine g_if_neT (tg := 26) h dX3_pays_19 (by decide) (fun q => (bI_0.mp q) (hpO g2 g1)) ?_
  refine g_iload_n (i := 3) h dX3_pays_26 rfl rfl (pc' := 27) rfl ?_
  refine g_callS1 h dX3_pays_27 cf_X3_80 (M_X3_isPart (p := part) ) rfl (by decide) rfl (Nat.le_of_ble_eq_true rfl) (pc' := 30) rfl ?_
  refine g_if_neF (tg := 37) h dX3_pays_30 (by decide) (pc' := 33) rfl (bI_n g3) ?_
  refine g_ldc2 h dX3_pays_33 co_X3_83 (pc' := 36) rfl ?_
  exact g_lret h hr dX3_pays_36 rfl rfl
set_option maxRecDepth 20000 in
set_option maxHeartbeats 4000000 in
theorem M_pays {Z : ZT} {m : Nat} {toll : Int32} {paid : Int32} {coin : Nat → Int32} {debt : Nat → Int32} {fall : Nat → Int32} {shr : Nat → Int64} {mat : Nat → Int64} {rgt : Nat → Int64} {pen : Int32} {last : Int32} {below : Int64} {i : Nat} {j : Nat} {part : Int32}  (g0 : i < m) (g1 : m ≤ 4) (g2 : j ≤ m) (g3 : part = 0 ∨ part = nI 1) : MM Z yX3_pays cX3_pays 6 (some .long) 6 [.ref (Z.2.2 0), .int (nI i), .int (nI j), .int part] (wC Z (nI m) toll paid coin debt fall shr mat rgt pen last below) (some (.long (lT ((cst toll (-1) coin debt fall shr mat rgt).2.1 i * (debt (i * 5 + cm m j)).toInt64) (cst toll (-1) coin debt fall shr mat rgt).2.2.2.2.2 part))) (wC Z (nI m) toll paid coin debt ((cst toll (-1) coin debt fall shr mat rgt).1) ((cst toll (-1) coin debt fall shr mat rgt).2.1) ((cst toll (-1) coin debt fall shr mat rgt).2.2.1) ((cst toll (-1) coin debt fall shr mat rgt).2.2.2.1) (-1) ((cst toll (-1) coin debt fall shr mat rgt).2.2.2.2.1) ((cst toll (-1) coin debt fall shr mat rgt).2.2.2.2.2)) := by
  refine MM.intro (by decide) [some (.ref (Z.2.2 0)), some (.int (nI i)), some (.int (nI j)), some (.int part), none, none] rfl (Nat.le_of_ble_eq_true rfl) (fun X (h : OK Z X cX3_pays RX3 6 (rmd 6)) hr => ?_)
  refine g_aload_n (i := 0) h dX3_pays_0 rfl rfl (pc' := 1) rfl ?_
  refine gf_X3_10 h dX3_pays_1 (pc' := 4) rfl ?_
  refine g_iload_n (i := 1) h dX3_pays_4 rfl rfl (pc' := 5) rfl ?_
  refine g_callV1 (q0 := 1) h dX3_pays_5 cf_X3_36 (M_X0_isHouse (i := nI i) ) rfl rfl rfl rfl (by decide) rfl (Nat.le_of_ble_eq_true rfl) (pc' := 8) rfl ?_
  refine g_if_eqF (tg := 22) h dX3_pays_8 (by decide) (pc' := 11) rfl (fun q => (bI_0.mp q) (hsO g0 g1)) ?_
  refine g_aload_n (i := 0) h dX3_pays_11 rfl rfl (pc' := 12) rfl ?_
  refine gf_X3_10 h dX3_pays_12 (pc' := 15) rfl ?_
  refine g_iload_n (i := 2) h dX3_pays_15 rfl rfl (pc' := 16) rfl ?_
  refine g_callV1 (q0 := 1) h dX3_pays_16 cf_X3_48 (M_X0_isPayee (i := nI j) ) rfl rfl rfl rfl (by decide) rfl (Nat.le_of_ble_eq_true rfl) (pc' := 19) rfl ?_
  refine g_if_neT (tg := 26) h dX3_pays_19 (by decide) (fun q => (bI_0.mp q) (hpO g2 g1)) ?_
  refine g_iload_n (i := 3) h dX3_pays_26 rfl rfl (pc' := 27) rfl ?_
  refine g_callS1 h dX3_pays_27 cf_X3_80 (M_X3_isPart (p := part) ) rfl (by decide) rfl (Nat.le_of_ble_eq_true rfl) (pc' := 30) rfl ?_
  refine g_if_neT (tg := 37) h dX3_pays_30 (by decide) (fun q => (bI_0.mp q) g3) ?_
  refine g_aload_n (i := 0) h dX3_pays_37 rfl rfl (pc' := 38) rfl ?_
  refine gf_X3_21 h dX3_pays_38 (pc' := 41) rfl ?_
  refine g_iconst (v := (-1)) h dX3_pays_41 (by decide) (pc' := 42) rfl ?_
  refine g_callV0 (q0 := 2) h dX3_pays_42 cf_X3_69 (M_X1_settle (p := (-1)) ) rfl rfl rfl rfl (by decide) rfl (Nat.le_of_ble_eq_true rfl) (pc' := 45) rfl ?_
  refine g_aload_n (i := 0) h dX3_pays_45 rfl rfl (pc' := 46) rfl ?_
  refine gf_X3_21 h dX3_pays_46 (pc' := 49) rfl ?_
  refine g_iload_n (i := 1) h dX3_pays_49 rfl rfl (pc' := 50) rfl ?_
  refine g_callV1 (q0 := 2) h dX3_pays_50 cf_X3_85 (M_X1_shareAbove (i := i) (by omega)) rfl rfl rfl rfl (by decide) rfl (Nat.le_of_ble_eq_true rfl) (pc' := 53) rfl ?_
  refine g_aload_n (i := 0) h dX3_pays_53 rfl rfl (pc' := 54) rfl ?_
  refine gf_X3_10 h dX3_pays_54 (pc' := 57) rfl ?_
  refine g_iload_n (i := 1) h dX3_pays_57 rfl rfl (pc' := 58) rfl ?_
  refine g_aload_n (i := 0) h dX3_pays_58 rfl rfl (pc' := 59) rfl ?_
  refine gf_X3_10 h dX3_pays_59 (pc' := 62) rfl ?_
  refine g_iload_n (i := 2) h dX3_pays_62 rfl rfl (pc' := 63) rfl ?_
  refine g_callV1 (q0 := 1) h dX3_pays_63 cf_X3_51 (M_X0_columnOf_N (i := j) g2 g1) rfl rfl rfl rfl (by decide) rfl (Nat.le_of_ble_eq_true rfl) (pc' := 66) rfl ?_
  refine g_callV1 (q0 := 1) h dX3_pays_66 cf_X3_54 (M_X0_owed (i := i) (c := cm m j) (by omega) (col_lt g2 g1)) rfl rfl rfl rfl (by decide) rfl (Nat.le_of_ble_eq_true rfl) (pc' := 69) rfl ?_
  refine g_i2l h dX3_pays_69 (pc' := 70) rfl ?_
  refine g_lmul h dX3_pays_70 (pc' := 71) rfl ?_
  refine g_lstore4 h dX3_pays_71 rfl (by decide) (pc' := 73) rfl ?_
  refine g_lload h dX3_pays_73 rfl (pc' := 75) rfl ?_
  refine g_aload_n (i := 0) h dX3_pays_75 rfl rfl (pc' := 76) rfl ?_
  refine gf_X3_21 h dX3_pays_76 (pc' := 79) rfl ?_
  refine gf_X3_89 h dX3_pays_79 (pc' := 82) rfl ?_
  refine g_iload_n (i := 3) h dX3_pays_82 rfl rfl (pc' := 83) rfl ?_
  refine g_callS1 h dX3_pays_83 cf_X3_93 (M_X3_lowestTerms (a := (((cst toll (-1) coin debt fall shr mat rgt).2.1) i) * ((debt (i * 5 + (cm m j))).toInt64)) (b := (cst toll (-1) coin debt fall shr mat rgt).2.2.2.2.2) (p := part) ) rfl (by decide) rfl (Nat.le_of_ble_eq_true rfl) (pc' := 86) rfl ?_
  exact g_lret h hr dX3_pays_86 rfl rfl
set_option maxRecDepth 20000 in
set_option maxHeartbeats 4000000 in
theorem M_lost_O {Z : ZT} {m : Nat} {toll : Int32} {paid : Int32} {coin : Nat → Int32} {debt : Nat → Int32} {fall : Nat → Int32} {shr : Nat → Int64} {mat : Nat → Int64} {rgt : Nat → Int64} {pen : Int32} {last : Int32} {below : Int64} {part : Int32}  (g0 : ¬ (part = 0 ∨ part = nI 1)) : MM Z yX3_lost cX3_lost 2 (some .long) 6 [.ref (Z.2.2 0), .int part] (wC Z (nI m) toll paid coin debt fall shr mat rgt pen last below) (some (.long (-102))) (wC Z (nI m) toll paid coin debt fall shr mat rgt pen last below) := by
  refine MM.intro (by decide) [some (.ref (Z.2.2 0)), some (.int part)] rfl (Nat.le_of_ble_eq_true rfl) (fun X (h : OK Z X cX3_lost RX3 2 (rmd 6)) hr => ?_)
  refine g_iload_n (i := 1) h dX3_lost_0 rfl rfl (pc' := 1) rfl ?_
  refine g_callS1 h dX3_lost_1 cf_X3_80 (M_X3_isPart (p := part) ) rfl (by decide) rfl (Nat.le_of_ble_eq_true rfl) (pc' := 4) rfl ?_
  refine g_if_neF (tg := 11) h dX3_lost_4 (by decide) (pc' := 7) rfl (bI_n g0) ?_
  refine g_ldc2 h dX3_lost_7 co_X3_83 (pc' := 10) rfl ?_
  exact g_lret h hr dX3_lost_10 rfl rfl
set_option maxRecDepth 20000 in
set_option maxHeartbeats 4000000 in
theorem M_lost {Z : ZT} {m : Nat} {toll : Int32} {paid : Int32} {coin : Nat → Int32} {debt : Nat → Int32} {fall : Nat → Int32} {shr : Nat → Int64} {mat : Nat → Int64} {rgt : Nat → Int64} {pen : Int32} {last : Int32} {below : Int64} {part : Int32}  (g0 : part = 0 ∨ part = nI 1) : MM Z yX3_lost cX3_lost 2 (some .long) 6 [.ref (Z.2.2 0), .int part] (wC Z (nI m) toll paid coin debt fall shr mat rgt pen last below) (some (.long (lT (lA toll (cst toll (-1) coin debt fall shr mat rgt).2.2.2.2.2 (-1) coin debt (cst toll (-1) coin debt fall shr mat rgt).2.1 (cst toll (-1) coin debt fall shr mat rgt).1 4) ((cst toll (-1) coin debt fall shr mat rgt).2.2.2.2.2 * 10) part))) (wC Z (nI m) toll paid coin debt ((cst toll (-1) coin debt fall shr mat rgt).1) ((cst toll (-1) coin debt fall shr mat rgt).2.1) ((cst toll (-1) coin debt fall shr mat rgt).2.2.1) ((cst toll (-1) coin debt fall shr mat rgt).2.2.2.1) (-1) ((cst toll (-1) coin debt fall shr mat rgt).2.2.2.2.1) ((cst toll (-1) coin debt fall shr mat rgt).2.2.2.2.2)) := by
  refine MM.intro (by decide) [some (.ref (Z.2.2 0)), some (.int part)] rfl (Nat.le_of_ble_eq_true rfl) (fun X (h : OK Z X cX3_lost RX3 2 (rmd 6)) hr => ?_)
  refine g_iload_n (i := 1) h dX3_lost_0 rfl rfl (pc' := 1) rfl ?_
  refine g_callS1 h dX3_lost_1 cf_X3_80 (M_X3_isPart (p := part) ) rfl (by decide) rfl (Nat.le_of_ble_eq_true rfl) (pc' := 4) rfl ?_
  refine g_if_neT (tg := 11) h dX3_lost_4 (by decide) (fun q => (bI_0.mp q) g0) ?_
  refine g_aload_n (i := 0) h dX3_lost_11 rfl rfl (pc' := 12) rfl ?_
  refine gf_X3_21 h dX3_lost_12 (pc' := 15) rfl ?_
  refine g_iconst (v := (-1)) h dX3_lost_15 (by decide) (pc' := 16) rfl ?_
  refine g_callV0 (q0 := 2) h dX3_lost_16 cf_X3_69 (M_X1_settle (p := (-1)) ) rfl rfl rfl rfl (by decide) rfl (Nat.le_of_ble_eq_true rfl) (pc' := 19) rfl ?_
  refine g_aload_n (i := 0) h dX3_lost_19 rfl rfl (pc' := 20) rfl ?_
  refine gf_X3_21 h dX3_lost_20 (pc' := 23) rfl ?_
  refine g_callV1 (q0 := 2) h dX3_lost_23 cf_X3_103 (M_X1_lostAbove  ) rfl rfl rfl rfl (by decide) rfl (Nat.le_of_ble_eq_true rfl) (pc' := 26) rfl ?_
  refine g_aload_n (i := 0) h dX3_lost_26 rfl rfl (pc' := 27) rfl ?_
  refine gf_X3_21 h dX3_lost_27 (pc' := 30) rfl ?_
  refine gf_X3_89 h dX3_lost_30 (pc' := 33) rfl ?_
  refine g_ldc2 h dX3_lost_33 co_X3_107 (pc' := 36) rfl ?_
  refine g_lmul h dX3_lost_36 (pc' := 37) rfl ?_
  refine g_iload_n (i := 1) h dX3_lost_37 rfl rfl (pc' := 38) rfl ?_
  refine g_callS1 h dX3_lost_38 cf_X3_93 (M_X3_lowestTerms (a := lA toll ((cst toll (-1) coin debt fall shr mat rgt).2.2.2.2.2) (-1) coin debt ((cst toll (-1) coin debt fall shr mat rgt).2.1) ((cst toll (-1) coin debt fall shr mat rgt).1) 4) (b := ((cst toll (-1) coin debt fall shr mat rgt).2.2.2.2.2) * (10)) (p := part) ) rfl (by decide) rfl (Nat.le_of_ble_eq_true rfl) (pc' := 41) rfl ?_
  exact g_lret h hr dX3_lost_41 rfl rfl
set_option maxRecDepth 20000 in
set_option maxHeartbeats 4000000 in
theorem M_best {Z : ZT} {m : Nat} {toll : Int32} {paid : Int32} {coin : Nat → Int32} {debt : Nat → Int32} {fall : Nat → Int32} {shr : Nat → Int64} {mat : Nat → Int64} {rgt : Nat → Int64} {pen : Int32} {last : Int32} {below : Int64}   (g0 : m ≤ 4) : MM Z yX3_best cX3_best 5 (some .int) 5 [.ref (Z.2.2 0)] (wC Z (nI m) toll paid coin debt fall shr mat rgt pen last below) (some (.int ((bB coin debt m).1))) (wC Z (nI m) toll paid coin debt fall shr mat rgt pen last below) := by
  refine MM.intro (by decide) [some (.ref (Z.2.2 0)), none, none, none, none] rfl (Nat.le_of_ble_eq_true rfl) (fun X (h : OK Z X cX3_best RX3 5 (rmd 5)) hr => ?_)
  refine g_iconst (v := (-1)) h dX3_best_0 (by decide) (pc' := 1) rfl ?_
  refine g_istore1 h dX3_best_1 rfl (by decide) (pc' := 2) rfl ?_
  refine g_iconst (v := (-1)) h dX3_best_2 (by decide) (pc' := 3) rfl ?_
  refine g_istore2 h dX3_best_3 rfl (by decide) (pc' := 4) rfl ?_
  refine g_iconst (v := nI 0) h dX3_best_4 (by decide) (pc' := 5) rfl ?_
  refine g_istore3 h dX3_best_5 rfl (by decide) (pc' := 6) rfl ?_
  refine GG.castW (lp (P := fun j => GG Z X 6 [some (.ref (Z.2.2 0)), some (.int ((bB coin debt j).1)), some (.int ((bB coin debt j).2)), some (.int (nI j)), none] [] (wC Z (nI m) toll paid coin debt fall shr mat rgt pen last below)) m ?_ ?_) ⟨rfl, rfl, rfl, rfl, trivial⟩ rfl rfl
  · skip
    refine g_iload_n (i := 3) h dX3_best_6 rfl rfl (pc' := 7) rfl ?_
    refine g_aload_n (i := 0) h dX3_best_7 rfl rfl (pc' := 8) rfl ?_
    refine gf_X3_10 h dX3_best_8 (pc' := 11) rfl ?_
    refine gf_X3_116 h dX3_best_11 (pc' := 14) rfl ?_
    refine g_icmp_geT (tg := 55) h dX3_best_14 (by decide) (Int32.le_refl _) ?_
    refine g_iload_n (i := 1) h dX3_best_55 rfl rfl (pc' := 56) rfl ?_
    exact g_iret h hr dX3_best_56 rfl rfl
  · intro j hj ih6
    refine g_iload_n (i := 3) h dX3_best_6 rfl rfl (pc' := 7) rfl ?_
    refine g_aload_n (i := 0) h dX3_best_7 rfl rfl (pc' := 8) rfl ?_
    refine gf_X3_10 h dX3_best_8 (pc' := 11) rfl ?_
    refine gf_X3_116 h dX3_best_11 (pc' := 14) rfl ?_
    refine g_icmp_geF (tg := 55) h dX3_best_14 (by decide) (pc' := 17) rfl (nI_ge hj (by omega)) ?_
    refine g_aload_n (i := 0) h dX3_best_17 rfl rfl (pc' := 18) rfl ?_
    refine gf_X3_10 h dX3_best_18 (pc' := 21) rfl ?_
    refine g_iload_n (i := 3) h dX3_best_21 rfl rfl (pc' := 22) rfl ?_
    refine g_callV1 (q0 := 1) h dX3_best_22 cf_X3_113 (M_X0_helpNeeded (i := j) (by omega)) rfl rfl rfl rfl (by decide) rfl (Nat.le_of_ble_eq_true rfl) (pc' := 25) rfl ?_
    refine g_istore4 h dX3_best_25 rfl (by decide) (pc' := 27) rfl ?_
    refine g_iload h dX3_best_27 rfl (pc' := 29) rfl ?_
    refine g_iconst (v := (-1)) h dX3_best_29 (by decide) (pc' := 30) rfl ?_
    refine g_icmp_eq (tg := 49) h dX3_best_30 (by decide) (pc' := 33) rfl (fun c1 => ?_) (fun c1 => ?_)
    · skip
      refine g_iinc3 (v := nI (j + 1)) h dX3_best_49 rfl (inc1 j) (by decide) (pc' := 52) rfl ?_
      refine g_goto (pc' := 6) h dX3_best_52 (by decide) ?_
      first | have hq : bC coin debt (bB coin debt j) j := ⟨c1, Or.inl c2⟩ | have hq : bC coin debt (bB coin debt j) j := ⟨c1, Or.inr c3⟩ | have hq : ¬ bC coin debt (bB coin debt j) j := (fun q => q.1 c1) | have hq : ¬ bC coin debt (bB coin debt j) j := (fun q => q.2.elim c2 (fun z => z c3))
      exact GG.castW ih6 ⟨rfl, (by simp only [List.head?_cons, List.tail_cons, bB]; first | rw [if_pos hq] | rw [if_neg hq]), (by simp only [List.head?_cons, List.tail_cons, bB]; first | rw [if_pos hq] | rw [if_neg hq]), rfl, trivial⟩ rfl rfl
    · skip
      refine g_iload_n (i := 1) h dX3_best_33 rfl rfl (pc' := 34) rfl ?_
      refine g_iconst (v := (-1)) h dX3_best_34 (by decide) (pc' := 35) rfl ?_
      refine g_icmp_eq (tg := 44) h dX3_best_35 (by decide) (pc' := 38) rfl (fun c2 => ?_) (fun c2 => ?_)
      · skip
        refine g_iload_n (i := 3) h dX3_best_44 rfl rfl (pc' := 45) rfl ?_
        refine g_istore1 h dX3_best_45 rfl (by decide) (pc' := 46) rfl ?_
        refine g_iload h dX3_best_46 rfl (pc' := 48) rfl ?_
        refine g_istore2 h dX3_best_48 rfl (by decide) (pc' := 49) rfl ?_
        refine g_iinc3 (v := nI (j + 1)) h dX3_best_49 rfl (inc1 j) (by decide) (pc' := 52) rfl ?_
        refine g_goto (pc' := 6) h dX3_best_52 (by decide) ?_
        first | have hq : bC coin debt (bB coin debt j) j := ⟨c1, Or.inl c2⟩ | have hq : bC coin debt (bB coin debt j) j := ⟨c1, Or.inr c3⟩ | have hq : ¬ bC coin debt (bB coin debt j) j := (fun q => q.1 c1) | have hq : ¬ bC coin debt (bB coin debt j) j := (fun q => q.2.elim c2 (fun z => z c3))
        exact GG.castW ih6 ⟨rfl, (by simp only [List.head?_cons, List.tail_cons, bB]; first | rw [if_pos hq] | rw [if_neg hq]), (by simp only [List.head?_cons, List.tail_cons, bB]; first | rw [if_pos hq] | rw [if_neg hq]), rfl, trivial⟩ rfl rfl
      · skip
        refine g_iload h dX3_best_38 rfl (pc' := 40) rfl ?_
        refine g_iload_n (i := 2) h dX3_best_40 rfl rfl (pc' := 41) rfl ?_
        refine g_icmp_ge (tg := 49) h dX3_best_41 (by decide) (pc' := 44) rfl (fun c3 => ?_) (fun c3 => ?_)
        · skip
          refine g_iinc3 (v := nI (j + 1)) h dX3_best_49 rfl (inc1 j) (by decide) (pc' := 52) rfl ?_
          refine g_goto (pc' := 6) h dX3_best_52 (by decide) ?_
          first | have hq : bC coin debt (bB coin debt j) j := ⟨c1, Or.inl c2⟩ | have hq : bC coin debt (bB coin debt j) j := ⟨c1, Or.inr c3⟩ | have hq : ¬ bC coin debt (bB coin debt j) j := (fun q => q.1 c1) | have hq : ¬ bC coin debt (bB coin debt j) j := (fun q => q.2.elim c2 (fun z => z c3))
          exact GG.castW ih6 ⟨rfl, (by simp only [List.head?_cons, List.tail_cons, bB]; first | rw [if_pos hq] | rw [if_neg hq]), (by simp only [List.head?_cons, List.tail_cons, bB]; first | rw [if_pos hq] | rw [if_neg hq]), rfl, trivial⟩ rfl rfl
        · skip
          refine g_iload_n (i := 3) h dX3_best_44 rfl rfl (pc' := 45) rfl ?_
          refine g_istore1 h dX3_best_45 rfl (by decide) (pc' := 46) rfl ?_
          refine g_iload h dX3_best_46 rfl (pc' := 48) rfl ?_
          refine g_istore2 h dX3_best_48 rfl (by decide) (pc' := 49) rfl ?_
          refine g_iinc3 (v := nI (j + 1)) h dX3_best_49 rfl (inc1 j) (by decide) (pc' := 52) rfl ?_
          refine g_goto (pc' := 6) h dX3_best_52 (by decide) ?_
          first | have hq : bC coin debt (bB coin debt j) j := ⟨c1, Or.inl c2⟩ | have hq : bC coin debt (bB coin debt j) j := ⟨c1, Or.inr c3⟩ | have hq : ¬ bC coin debt (bB coin debt j) j := (fun q => q.1 c1) | have hq : ¬ bC coin debt (bB coin debt j) j := (fun q => q.2.elim c2 (fun z => z c3))
          exact GG.castW ih6 ⟨rfl, (by simp only [List.head?_cons, List.tail_cons, bB]; first | rw [if_pos hq] | rw [if_neg hq]), (by simp only [List.head?_cons, List.tail_cons, bB]; first | rw [if_pos hq] | rw [if_neg hq]), rfl, trivial⟩ rfl rfl
set_option maxRecDepth 20000 in
set_option maxHeartbeats 4000000 in
theorem M_rings {Z : ZT} {m : Nat} {toll : Int32} {paid : Int32} {coin : Nat → Int32} {debt : Nat → Int32} {fall : Nat → Int32} {shr : Nat → Int64} {mat : Nat → Int64} {rgt : Nat → Int64} {pen : Int32} {last : Int32} {below : Int64}    : MM Z yX3_rings cX3_rings 1 (some .int) 4 [.ref (Z.2.2 0)] (wC Z (nI m) toll paid coin debt fall shr mat rgt pen last below) (some (.int (nI (hm debt 20)))) (wC Z (nI m) toll paid coin debt fall shr mat rgt pen last below) := by
  refine MM.intro (by decide) [some (.ref (Z.2.2 0))] rfl (Nat.le_of_ble_eq_true rfl) (fun X (h : OK Z X cX3_rings RX3 1 (rmd 4)) hr => ?_)
  refine g_aload_n (i := 0) h dX3_rings_0 rfl rfl (pc' := 1) rfl ?_
  refine gf_X3_28 h dX3_rings_1 (pc' := 4) rfl ?_
  refine g_callV1 (q0 := 3) h dX3_rings_4 cf_X3_123 (M_X2_howMany  ) rfl rfl rfl rfl (by decide) rfl (Nat.le_of_ble_eq_true rfl) (pc' := 7) rfl ?_
  exact g_iret h hr dX3_rings_7 rfl rfl
set_option maxRecDepth 20000 in
set_option maxHeartbeats 4000000 in
theorem M_ring {Z : ZT} {m : Nat} {toll : Int32} {paid : Int32} {coin : Nat → Int32} {debt : Nat → Int32} {fall : Nat → Int32} {shr : Nat → Int64} {mat : Nat → Int64} {rgt : Nat → Int64} {pen : Int32} {last : Int32} {below : Int64} {k : Int32}   : MM Z yX3_ring cX3_ring 2 (some .int) 4 [.ref (Z.2.2 0), .int k] (wC Z (nI m) toll paid coin debt fall shr mat rgt pen last below) (some (.int (fgo debt k 20 0 0))) (wC Z (nI m) toll paid coin debt fall shr mat rgt pen last below) := by
  refine MM.intro (by decide) [some (.ref (Z.2.2 0)), some (.int k)] rfl (Nat.le_of_ble_eq_true rfl) (fun X (h : OK Z X cX3_ring RX3 2 (rmd 4)) hr => ?_)
  refine g_aload_n (i := 0) h dX3_ring_0 rfl rfl (pc' := 1) rfl ?_
  refine gf_X3_28 h dX3_ring_1 (pc' := 4) rfl ?_
  refine g_iload_n (i := 1) h dX3_ring_4 rfl rfl (pc' := 5) rfl ?_
  refine g_callV1 (q0 := 3) h dX3_ring_5 cf_X3_126 (M_X2_figuresOf (q := k) ) rfl rfl rfl rfl (by decide) rfl (Nat.le_of_ble_eq_true rfl) (pc' := 8) rfl ?_
  exact g_iret h hr dX3_ring_8 rfl rfl
set_option maxRecDepth 20000 in
set_option maxHeartbeats 4000000 in
theorem M_cancel_none {Z : ZT} {m : Nat} {toll : Int32} {paid : Int32} {coin : Nat → Int32} {debt : Nat → Int32} {fall : Nat → Int32} {shr : Nat → Int64} {mat : Nat → Int64} {rgt : Nat → Int64} {pen : Int32} {last : Int32} {below : Int64}   (g0 : fr debt = none) : MM Z yX3_cancel cX3_cancel 2 (some .int) 4 [.ref (Z.2.2 0)] (wC Z (nI m) toll paid coin debt fall shr mat rgt pen last below) (some (.int (nI 0))) (wC Z (nI m) toll paid coin debt fall shr mat rgt pen last below) := by
  refine MM.intro (by decide) [some (.ref (Z.2.2 0)), none] rfl (Nat.le_of_ble_eq_true rfl) (fun X (h : OK Z X cX3_cancel RX3 2 (rmd 4)) hr => ?_)
  refine g_aload_n (i := 0) h dX3_cancel_0 rfl rfl (pc' := 1) rfl ?_
  refine gf_X3_28 h dX3_cancel_1 (pc' := 4) rfl ?_
  refine g_iconst (v := nI 0) h dX3_cancel_4 (by decide) (pc' := 5) rfl ?_
  refine g_callV1 (q0 := 3) h dX3_cancel_5 cf_X3_126 (M_X2_fig_none  g0) rfl rfl rfl rfl (by decide) rfl (Nat.le_of_ble_eq_true rfl) (pc' := 8) rfl ?_
  refine g_istore1 h dX3_cancel_8 rfl (by decide) (pc' := 9) rfl ?_
  refine g_iload_n (i := 1) h dX3_cancel_9 rfl rfl (pc' := 10) rfl ?_
  refine g_iconst (v := (-1)) h dX3_cancel_10 (by decide) (pc' := 11) rfl ?_
  refine g_icmp_neF (tg := 18) h dX3_cancel_11 (by decide) (pc' := 14) rfl rfl ?_
  refine g_iconst (v := nI 0) h dX3_cancel_14 (by decide) (pc' := 15) rfl ?_
  refine g_goto (pc' := 26) h dX3_cancel_15 (by decide) ?_
  exact g_iret h hr dX3_cancel_26 rfl rfl
theorem fg_ne : ∀ k, k < 20 → ¬ nI (fg k) = (-1) := by decide
set_option maxRecDepth 20000 in
set_option maxHeartbeats 4000000 in
theorem M_cancel {Z : ZT} {m : Nat} {toll : Int32} {paid : Int32} {coin : Nat → Int32} {debt : Nat → Int32} {fall : Nat → Int32} {shr : Nat → Int64} {mat : Nat → Int64} {rgt : Nat → Int64} {pen : Int32} {last : Int32} {below : Int64}  {q1 : Nat} (g0 : fr debt = some q1) : MM Z yX3_cancel cX3_cancel 2 (some .int) 4 [.ref (Z.2.2 0)] (wC Z (nI m) toll paid coin debt fall shr mat rgt pen last below) (some (.int (lm (debt) (fg q1) (sz (fg q1))))) (wC Z (nI m) toll paid coin (ls debt (fg q1) (lm (debt) (fg q1) (sz (fg q1))) (sz (fg q1))) fall shr mat rgt pen last below) := by
  refine MM.intro (by decide) [some (.ref (Z.2.2 0)), none] rfl (Nat.le_of_ble_eq_true rfl) (fun X (h : OK Z X cX3_cancel RX3 2 (rmd 4)) hr => ?_)
  refine g_aload_n (i := 0) h dX3_cancel_0 rfl rfl (pc' := 1) rfl ?_
  refine gf_X3_28 h dX3_cancel_1 (pc' := 4) rfl ?_
  refine g_iconst (v := nI 0) h dX3_cancel_4 (by decide) (pc' := 5) rfl ?_
  refine g_callV1 (q0 := 3) h dX3_cancel_5 cf_X3_126 (M_X2_fig_some  g0) rfl rfl rfl rfl (by decide) rfl (Nat.le_of_ble_eq_true rfl) (pc' := 8) rfl ?_
  refine g_istore1 h dX3_cancel_8 rfl (by decide) (pc' := 9) rfl ?_
  refine g_iload_n (i := 1) h dX3_cancel_9 rfl rfl (pc' := 10) rfl ?_
  refine g_iconst (v := (-1)) h dX3_cancel_10 (by decide) (pc' := 11) rfl ?_
  refine g_icmp_neT (tg := 18) h dX3_cancel_11 (by decide) (fg_ne _ (fr_lt g0)) ?_
  refine g_aload_n (i := 0) h dX3_cancel_18 rfl rfl (pc' := 19) rfl ?_
  refine gf_X3_28 h dX3_cancel_19 (pc' := 22) rfl ?_
  refine g_iload_n (i := 1) h dX3_cancel_22 rfl rfl (pc' := 23) rfl ?_
  refine g_callV1 (q0 := 3) h dX3_cancel_23 cf_X3_129 (M_X2_lessen (g := fg q1) (ok_fg _ (fr_lt g0)).1 (ok_fg _ (fr_lt g0)).2.1 (ok_fg _ (fr_lt g0)).2.2) rfl rfl rfl rfl (by decide) rfl (Nat.le_of_ble_eq_true rfl) (pc' := 26) rfl ?_
  exact g_iret h hr dX3_cancel_26 rfl rfl
set_option maxRecDepth 20000 in
set_option maxHeartbeats 4000000 in
theorem M_cancelAll {Z : ZT} {m : Nat} {toll : Int32} {paid : Int32} {coin : Nat → Int32} {debt : Nat → Int32} {fall : Nat → Int32} {shr : Nat → Int64} {mat : Nat → Int64} {rgt : Nat → Int64} {pen : Int32} {last : Int32} {below : Int64}    : MM Z yX3_cancelAll cX3_cancelAll 5 (some .int) 4 [.ref (Z.2.2 0)] (wC Z (nI m) toll paid coin debt fall shr mat rgt pen last below) (some (.int ((caC 20 debt (nI 0)).1))) (wC Z (nI m) toll paid coin ((caC 20 debt (nI 0)).2) fall shr mat rgt pen last below) := by
  refine MM.intro (by decide) [some (.ref (Z.2.2 0)), none, none, none, none] rfl (Nat.le_of_ble_eq_true rfl) (fun X (h : OK Z X cX3_cancelAll RX3 5 (rmd 4)) hr => ?_)
  refine g_iconst (v := nI 0) h dX3_cancelAll_0 (by decide) (pc' := 1) rfl ?_
  refine g_istore1 h dX3_cancelAll_1 rfl (by decide) (pc' := 2) rfl ?_
  refine g_iconst (v := nI 0) h dX3_cancelAll_2 (by decide) (pc' := 3) rfl ?_
  refine g_istore2 h dX3_cancelAll_3 rfl (by decide) (pc' := 4) rfl ?_
  have key4 : ∀ (k : Nat) (j : Nat) (d : Nat → Int32) (a : Int32), (j + k = 20) → (caC 20 debt (nI 0) = caC k d a) → GG Z X 4 [some (.ref (Z.2.2 0)), some (.int a), some (.int (nI j)), none, none] [] (wC Z (nI m) toll paid coin d fall shr mat rgt pen last below) := by
    intro k
    induction k with
    | zero =>
      intro j d a e4_0 e4_1
      refine g_iload_n (i := 2) h dX3_cancelAll_4 rfl rfl (pc' := 5) rfl ?_
      refine g_bipush (v := nI 20) h dX3_cancelAll_5 (by decide) (pc' := 7) rfl ?_
      refine g_icmp_geT (tg := 57) h dX3_cancelAll_7 (by decide) (by rw [show j = 20 by omega]; exact Int32.le_refl _) ?_
      refine g_iload_n (i := 1) h dX3_cancelAll_57 rfl rfl (pc' := 58) rfl ?_
      exact g_iret h hr dX3_cancelAll_58 (by first | rw [e4_1, caC_none hfr] | (rw [e4_1]; rfl)) (by first | rw [e4_1, caC_none hfr] | (rw [e4_1]; rfl))
    | succ k ih4 =>
      intro j d a e4_0 e4_1
      have hj : j < 20 := by omega
      refine g_iload_n (i := 2) h dX3_cancelAll_4 rfl rfl (pc' := 5) rfl ?_
      refine g_bipush (v := nI 20) h dX3_cancelAll_5 (by decide) (pc' := 7) rfl ?_
      refine g_icmp_geF (tg := 57) h dX3_cancelAll_7 (by decide) (pc' := 10) rfl (nI_ge hj (by decide)) ?_
      refine g_aload_n (i := 0) h dX3_cancelAll_10 rfl rfl (pc' := 11) rfl ?_
      refine gf_X3_28 h dX3_cancelAll_11 (pc' := 14) rfl ?_
      refine g_iconst (v := nI 0) h dX3_cancelAll_14 (by decide) (pc' := 15) rfl ?_
      rcases hfr : fr d with _ | q1
      · skip
        refine g_callV1 (q0 := 3) h dX3_cancelAll_15 cf_X3_126 (M_X2_fig_none  hfr) rfl rfl rfl rfl (by decide) rfl (Nat.le_of_ble_eq_true rfl) (pc' := 18) rfl ?_
        refine g_istore3 h dX3_cancelAll_18 rfl (by decide) (pc' := 19) rfl ?_
        refine g_iload_n (i := 3) h dX3_cancelAll_19 rfl rfl (pc' := 20) rfl ?_
        refine g_iconst (v := (-1)) h dX3_cancelAll_20 (by decide) (pc' := 21) rfl ?_
        refine g_icmp_neF (tg := 27) h dX3_cancelAll_21 (by decide) (pc' := 24) rfl rfl ?_
        refine g_goto (pc' := 57) h dX3_cancelAll_24 (by decide) ?_
        refine g_iload_n (i := 1) h dX3_cancelAll_57 rfl rfl (pc' := 58) rfl ?_
        exact g_iret h hr dX3_cancelAll_58 (by first | rw [e4_1, caC_none hfr] | (rw [e4_1]; rfl)) (by first | rw [e4_1, caC_none hfr] | (rw [e4_1]; rfl))
      · skip
        refine g_callV1 (q0 := 3) h dX3_cancelAll_15 cf_X3_126 (M_X2_fig_some  hfr) rfl rfl rfl rfl (by decide) rfl (Nat.le_of_ble_eq_true rfl) (pc' := 18) rfl ?_
        refine g_istore3 h dX3_cancelAll_18 rfl (by decide) (pc' := 19) rfl ?_
        refine g_iload_n (i := 3) h dX3_cancelAll_19 rfl rfl (pc' := 20) rfl ?_
        refine g_iconst (v := (-1)) h dX3_cancelAll_20 (by decide) (pc' := 21) rfl ?_
        refine g_icmp_neT (tg := 27) h dX3_cancelAll_21 (by decide) (fg_ne _ (fr_lt hfr)) ?_
        refine g_aload_n (i := 0) h dX3_cancelAll_27 rfl rfl (pc' := 28) rfl ?_
        refine gf_X3_28 h dX3_cancelAll_28 (pc' := 31) rfl ?_
        refine g_iload_n (i := 3) h dX3_cancelAll_31 rfl rfl (pc' := 32) rfl ?_
        refine g_callV1 (q0 := 3) h dX3_cancelAll_32 cf_X3_132 (M_X2_sizeOf (g := fg q1) (ok_fg _ (fr_lt hfr)).1 (ok_fg _ (fr_lt hfr)).2.1) rfl rfl rfl rfl (by decide) rfl (Nat.le_of_ble_eq_true rfl) (pc' := 35) rfl ?_
        refine g_istore4 h dX3_cancelAll_35 rfl (by decide) (pc' := 37) rfl ?_
        refine g_iload_n (i := 1) h dX3_cancelAll_37 rfl rfl (pc' := 38) rfl ?_
        refine g_iload h dX3_cancelAll_38 rfl (pc' := 40) rfl ?_
        refine g_aload_n (i := 0) h dX3_cancelAll_40 rfl rfl (pc' := 41) rfl ?_
        refine gf_X3_28 h dX3_cancelAll_41 (pc' := 44) rfl ?_
        refine g_iload_n (i := 3) h dX3_cancelAll_44 rfl rfl (pc' := 45) rfl ?_
        refine g_callV1 (q0 := 3) h dX3_cancelAll_45 cf_X3_129 (M_X2_lessen (g := fg q1) (ok_fg _ (fr_lt hfr)).1 (ok_fg _ (fr_lt hfr)).2.1 (ok_fg _ (fr_lt hfr)).2.2) rfl rfl rfl rfl (by decide) rfl (Nat.le_of_ble_eq_true rfl) (pc' := 48) rfl ?_
        refine g_imul h dX3_cancelAll_48 (pc' := 49) rfl ?_
        refine g_iadd h dX3_cancelAll_49 (pc' := 50) rfl ?_
        refine g_istore1 h dX3_cancelAll_50 rfl (by decide) (pc' := 51) rfl ?_
        refine g_iinc2 (v := nI (j + 1)) h dX3_cancelAll_51 rfl (inc1 j) (by decide) (pc' := 54) rfl ?_
        refine g_goto (pc' := 4) h dX3_cancelAll_54 (by decide) ?_
        exact GG.castW (ih4 (j + 1) (ls d (fg q1) (lm d (fg q1) (sz (fg q1))) (sz (fg q1))) (a + nI (sz (fg q1)) * lm d (fg q1) (sz (fg q1))) (by omega) (e4_1.trans (caC_some hfr))) ⟨rfl, rfl, rfl, trivial⟩ rfl rfl
  exact GG.castW (key4 20 0 debt (nI 0) rfl rfl) ⟨rfl, rfl, rfl, trivial⟩ rfl rfl
set_option maxRecDepth 20000 in
set_option maxHeartbeats 4000000 in
theorem M_day {Z : ZT} {m : Nat} {toll : Int32} {paid : Int32} {coin : Nat → Int32} {debt : Nat → Int32} {fall : Nat → Int32} {shr : Nat → Int64} {mat : Nat → Int64} {rgt : Nat → Int64} {pen : Int32} {last : Int32} {below : Int64}    : MM Z yX3_day cX3_day 1 (some .int) 4 [.ref (Z.2.2 0)] (wC Z (nI m) toll paid coin debt fall shr mat rgt pen last below) (some (.int (nI ((pDay 4 (0, paid, coin, debt)).1)))) (wC Z (nI m) toll ((pDay 4 (0, paid, coin, debt)).2.1) ((pDay 4 (0, paid, coin, debt)).2.2.1) ((pDay 4 (0, paid, coin, debt)).2.2.2) fall shr mat rgt pen last below) := by
  refine MM.intro (by decide) [some (.ref (Z.2.2 0))] rfl (Nat.le_of_ble_eq_true rfl) (fun X (h : OK Z X cX3_day RX3 1 (rmd 4)) hr => ?_)
  refine g_aload_n (i := 0) h dX3_day_0 rfl rfl (pc' := 1) rfl ?_
  refine gf_X3_10 h dX3_day_1 (pc' := 4) rfl ?_
  refine g_callV1 (q0 := 1) h dX3_day_4 cf_X3_135 (M_X0_passDay  ) rfl rfl rfl rfl (by decide) rfl (Nat.le_of_ble_eq_true rfl) (pc' := 7) rfl ?_
  exact g_iret h hr dX3_day_7 rfl rfl
set_option maxRecDepth 20000 in
set_option maxHeartbeats 4000000 in
theorem M_days {Z : ZT} {m : Nat} {toll : Int32} {paid : Int32} {coin : Nat → Int32} {debt : Nat → Int32} {fall : Nat → Int32} {shr : Nat → Int64} {mat : Nat → Int64} {rgt : Nat → Int64} {pen : Int32} {last : Int32} {below : Int64}    : MM Z yX3_days cX3_days 2 (some .int) 4 [.ref (Z.2.2 0)] (wC Z (nI m) toll paid coin debt fall shr mat rgt pen last below) (some (.int (nI ((dyl 20 0 (paid, coin, debt)).1)))) (wC Z (nI m) toll ((dyl 20 0 (paid, coin, debt)).2.1) ((dyl 20 0 (paid, coin, debt)).2.2.1) ((dyl 20 0 (paid, coin, debt)).2.2.2) fall shr mat rgt pen last below) := by
  refine MM.intro (by decide) [some (.ref (Z.2.2 0)), none] rfl (Nat.le_of_ble_eq_true rfl) (fun X (h : OK Z X cX3_days RX3 2 (rmd 4)) hr => ?_)
  refine g_iconst (v := nI 0) h dX3_days_0 (by decide) (pc' := 1) rfl ?_
  refine g_istore1 h dX3_days_1 rfl (by decide) (pc' := 2) rfl ?_
  have key2 : ∀ (k : Nat) (c : Nat) (s : sT), (c + k = 20) → (dyl 20 0 (paid, coin, debt) = dyl k c s) → GG Z X 2 [some (.ref (Z.2.2 0)), some (.int (nI c))] [] (wC Z (nI m) toll s.1 s.2.1 s.2.2 fall shr mat rgt pen last below) := by
    intro k
    induction k with
    | zero =>
      intro c s e2_0 e2_1
      refine g_iload_n (i := 1) h dX3_days_2 rfl rfl (pc' := 3) rfl ?_
      refine g_bipush (v := nI 20) h dX3_days_3 (by decide) (pc' := 5) rfl ?_
      refine g_icmp_geT (tg := 24) h dX3_days_5 (by decide) (by rw [show c = 20 by omega]; exact Int32.le_refl _) ?_
      refine g_iload_n (i := 1) h dX3_days_24 rfl rfl (pc' := 25) rfl ?_
      exact g_iret h hr dX3_days_25 (by rw [e2_1]; simp only [dyl, ]) (by rw [e2_1]; simp only [dyl, ])
    | succ k ih2 =>
      intro c s e2_0 e2_1
      have hj : c < 20 := by omega
      refine g_iload_n (i := 1) h dX3_days_2 rfl rfl (pc' := 3) rfl ?_
      refine g_bipush (v := nI 20) h dX3_days_3 (by decide) (pc' := 5) rfl ?_
      refine g_icmp_geF (tg := 24) h dX3_days_5 (by decide) (pc' := 8) rfl (nI_ge hj (by decide)) ?_
      refine g_aload_n (i := 0) h dX3_days_8 rfl rfl (pc' := 9) rfl ?_
      refine gf_X3_10 h dX3_days_9 (pc' := 12) rfl ?_
      refine g_callV1 (q0 := 1) h dX3_days_12 cf_X3_135 (M_X0_passDay  ) rfl rfl rfl rfl (by decide) rfl (Nat.le_of_ble_eq_true rfl) (pc' := 15) rfl ?_
      refine g_if_le (tg := 24) h dX3_days_15 (by decide) (pc' := 18) rfl (fun c1 => ?_) (fun c1 => ?_)
      · skip
        refine g_iload_n (i := 1) h dX3_days_24 rfl rfl (pc' := 25) rfl ?_
        exact g_iret h hr dX3_days_25 (by rw [e2_1]; simp only [dyl, if_pos c1]) (by rw [e2_1]; simp only [dyl, if_pos c1])
      · skip
        refine g_iinc1 (v := nI (c + 1)) h dX3_days_18 rfl (inc1 c) (by decide) (pc' := 21) rfl ?_
        refine g_goto (pc' := 2) h dX3_days_21 (by decide) ?_
        exact GG.castW (ih2 (c + 1) (pDay 4 (0, s.1, s.2.1, s.2.2)).2 (by omega) (e2_1.trans (if_neg c1))) ⟨rfl, rfl, trivial⟩ rfl rfl
  exact GG.castW (key2 20 0 (paid, coin, debt) rfl rfl) ⟨rfl, rfl, trivial⟩ rfl rfl
set_option maxRecDepth 20000 in
set_option maxHeartbeats 4000000 in
theorem M_count_0 {Z : ZT} {m : Nat} {toll : Int32} {paid : Int32} {coin : Nat → Int32} {debt : Nat → Int32} {fall : Nat → Int32} {shr : Nat → Int64} {mat : Nat → Int64} {rgt : Nat → Int64} {pen : Int32} {last : Int32} {below : Int64}    : MM Z yX3_count cX3_count 2 (some .int) 4 [.ref (Z.2.2 0), .int (nI 0)] (wC Z (nI m) toll paid coin debt fall shr mat rgt pen last below) (some (.int (nI m))) (wC Z (nI m) toll paid coin debt fall shr mat rgt pen last below) := by
  refine MM.intro (by decide) [some (.ref (Z.2.2 0)), some (.int (nI 0))] rfl (Nat.le_of_ble_eq_true rfl) (fun X (h : OK Z X cX3_count RX3 2 (rmd 4)) hr => ?_)
  refine g_iload_n (i := 1) h dX3_count_0 rfl rfl (pc' := 1) rfl ?_
  refine g_tabIn (off := 43) (tg := 44) h dX3_count_1 (by decide) (by decide) (by decide) (by decide) ?_
  refine g_aload_n (i := 0) h dX3_count_44 rfl rfl (pc' := 45) rfl ?_
  refine gf_X3_10 h dX3_count_45 (pc' := 48) rfl ?_
  refine gf_X3_116 h dX3_count_48 (pc' := 51) rfl ?_
  exact g_iret h hr dX3_count_51 rfl rfl
set_option maxRecDepth 20000 in
set_option maxHeartbeats 4000000 in
theorem M_count_1 {Z : ZT} {m : Nat} {toll : Int32} {paid : Int32} {coin : Nat → Int32} {debt : Nat → Int32} {fall : Nat → Int32} {shr : Nat → Int64} {mat : Nat → Int64} {rgt : Nat → Int64} {pen : Int32} {last : Int32} {below : Int64}    : MM Z yX3_count cX3_count 2 (some .int) 4 [.ref (Z.2.2 0), .int (nI 1)] (wC Z (nI m) toll paid coin debt fall shr mat rgt pen last below) (some (.int toll)) (wC Z (nI m) toll paid coin debt fall shr mat rgt pen last below) := by
  refine MM.intro (by decide) [some (.ref (Z.2.2 0)), some (.int (nI 1))] rfl (Nat.le_of_ble_eq_true rfl) (fun X (h : OK Z X cX3_count RX3 2 (rmd 4)) hr => ?_)
  refine g_iload_n (i := 1) h dX3_count_0 rfl rfl (pc' := 1) rfl ?_
  refine g_tabIn (off := 51) (tg := 52) h dX3_count_1 (by decide) (by decide) (by decide) (by decide) ?_
  refine g_aload_n (i := 0) h dX3_count_52 rfl rfl (pc' := 53) rfl ?_
  refine gf_X3_10 h dX3_count_53 (pc' := 56) rfl ?_
  refine gf_X3_62 h dX3_count_56 (pc' := 59) rfl ?_
  exact g_iret h hr dX3_count_59 rfl rfl
set_option maxRecDepth 20000 in
set_option maxHeartbeats 4000000 in
theorem M_count_2 {Z : ZT} {m : Nat} {toll : Int32} {paid : Int32} {coin : Nat → Int32} {debt : Nat → Int32} {fall : Nat → Int32} {shr : Nat → Int64} {mat : Nat → Int64} {rgt : Nat → Int64} {pen : Int32} {last : Int32} {below : Int64}    : MM Z yX3_count cX3_count 2 (some .int) 4 [.ref (Z.2.2 0), .int (nI 2)] (wC Z (nI m) toll paid coin debt fall shr mat rgt pen last below) (some (.int (sI coin 4))) (wC Z (nI m) toll paid coin debt fall shr mat rgt pen last below) := by
  refine MM.intro (by decide) [some (.ref (Z.2.2 0)), some (.int (nI 2))] rfl (Nat.le_of_ble_eq_true rfl) (fun X (h : OK Z X cX3_count RX3 2 (rmd 4)) hr => ?_)
  refine g_iload_n (i := 1) h dX3_count_0 rfl rfl (pc' := 1) rfl ?_
  refine g_tabIn (off := 59) (tg := 60) h dX3_count_1 (by decide) (by decide) (by decide) (by decide) ?_
  refine g_aload_n (i := 0) h dX3_count_60 rfl rfl (pc' := 61) rfl ?_
  refine gf_X3_10 h dX3_count_61 (pc' := 64) rfl ?_
  refine g_callV1 (q0 := 1) h dX3_count_64 cf_X3_138 (M_X0_allCoins  ) rfl rfl rfl rfl (by decide) rfl (Nat.le_of_ble_eq_true rfl) (pc' := 67) rfl ?_
  exact g_iret h hr dX3_count_67 rfl rfl
set_option maxRecDepth 20000 in
set_option maxHeartbeats 4000000 in
theorem M_count_3 {Z : ZT} {m : Nat} {toll : Int32} {paid : Int32} {coin : Nat → Int32} {debt : Nat → Int32} {fall : Nat → Int32} {shr : Nat → Int64} {mat : Nat → Int64} {rgt : Nat → Int64} {pen : Int32} {last : Int32} {below : Int64}    : MM Z yX3_count cX3_count 2 (some .int) 4 [.ref (Z.2.2 0), .int (nI 3)] (wC Z (nI m) toll paid coin debt fall shr mat rgt pen last below) (some (.int (sI (oB debt) 4))) (wC Z (nI m) toll paid coin debt fall shr mat rgt pen last below) := by
  refine MM.intro (by decide) [some (.ref (Z.2.2 0)), some (.int (nI 3))] rfl (Nat.le_of_ble_eq_true rfl) (fun X (h : OK Z X cX3_count RX3 2 (rmd 4)) hr => ?_)
  refine g_iload_n (i := 1) h dX3_count_0 rfl rfl (pc' := 1) rfl ?_
  refine g_tabIn (off := 67) (tg := 68) h dX3_count_1 (by decide) (by decide) (by decide) (by decide) ?_
  refine g_aload_n (i := 0) h dX3_count_68 rfl rfl (pc' := 69) rfl ?_
  refine gf_X3_10 h dX3_count_69 (pc' := 72) rfl ?_
  refine g_callV1 (q0 := 1) h dX3_count_72 cf_X3_141 (M_X0_allDebts  ) rfl rfl rfl rfl (by decide) rfl (Nat.le_of_ble_eq_true rfl) (pc' := 75) rfl ?_
  exact g_iret h hr dX3_count_75 rfl rfl
set_option maxRecDepth 20000 in
set_option maxHeartbeats 4000000 in
theorem M_count_4 {Z : ZT} {m : Nat} {toll : Int32} {paid : Int32} {coin : Nat → Int32} {debt : Nat → Int32} {fall : Nat → Int32} {shr : Nat → Int64} {mat : Nat → Int64} {rgt : Nat → Int64} {pen : Int32} {last : Int32} {below : Int64}    : MM Z yX3_count cX3_count 2 (some .int) 4 [.ref (Z.2.2 0), .int (nI 4)] (wC Z (nI m) toll paid coin debt fall shr mat rgt pen last below) (some (.int (oT debt 4))) (wC Z (nI m) toll paid coin debt fall shr mat rgt pen last below) := by
  refine MM.intro (by decide) [some (.ref (Z.2.2 0)), some (.int (nI 4))] rfl (Nat.le_of_ble_eq_true rfl) (fun X (h : OK Z X cX3_count RX3 2 (rmd 4)) hr => ?_)
  refine g_iload_n (i := 1) h dX3_count_0 rfl rfl (pc' := 1) rfl ?_
  refine g_tabIn (off := 75) (tg := 76) h dX3_count_1 (by decide) (by decide) (by decide) (by decide) ?_
  refine g_aload_n (i := 0) h dX3_count_76 rfl rfl (pc' := 77) rfl ?_
  refine gf_X3_10 h dX3_count_77 (pc' := 80) rfl ?_
  refine g_iconst (v := nI 4) h dX3_count_80 (by decide) (pc' := 81) rfl ?_
  refine g_callV1 (q0 := 1) h dX3_count_81 cf_X3_119 (M_X0_allOwedTo (c := 4) (by omega)) rfl rfl rfl rfl (by decide) rfl (Nat.le_of_ble_eq_true rfl) (pc' := 84) rfl ?_
  exact g_iret h hr dX3_count_84 rfl rfl
set_option maxRecDepth 20000 in
set_option maxHeartbeats 4000000 in
theorem M_count_5 {Z : ZT} {m : Nat} {toll : Int32} {paid : Int32} {coin : Nat → Int32} {debt : Nat → Int32} {fall : Nat → Int32} {shr : Nat → Int64} {mat : Nat → Int64} {rgt : Nat → Int64} {pen : Int32} {last : Int32} {below : Int64}    : MM Z yX3_count cX3_count 2 (some .int) 4 [.ref (Z.2.2 0), .int (nI 5)] (wC Z (nI m) toll paid coin debt fall shr mat rgt pen last below) (some (.int (nI (dC debt 4)))) (wC Z (nI m) toll paid coin debt fall shr mat rgt pen last below) := by
  refine MM.intro (by decide) [some (.ref (Z.2.2 0)), some (.int (nI 5))] rfl (Nat.le_of_ble_eq_true rfl) (fun X (h : OK Z X cX3_count RX3 2 (rmd 4)) hr => ?_)
  refine g_iload_n (i := 1) h dX3_count_0 rfl rfl (pc' := 1) rfl ?_
  refine g_tabIn (off := 84) (tg := 85) h dX3_count_1 (by decide) (by decide) (by decide) (by decide) ?_
  refine g_aload_n (i := 0) h dX3_count_85 rfl rfl (pc' := 86) rfl ?_
  refine gf_X3_10 h dX3_count_86 (pc' := 89) rfl ?_
  refine g_callV1 (q0 := 1) h dX3_count_89 cf_X3_144 (M_X0_debtorCount  ) rfl rfl rfl rfl (by decide) rfl (Nat.le_of_ble_eq_true rfl) (pc' := 92) rfl ?_
  exact g_iret h hr dX3_count_92 rfl rfl
set_option maxRecDepth 20000 in
set_option maxHeartbeats 4000000 in
theorem M_count_6 {Z : ZT} {m : Nat} {toll : Int32} {paid : Int32} {coin : Nat → Int32} {debt : Nat → Int32} {fall : Nat → Int32} {shr : Nat → Int64} {mat : Nat → Int64} {rgt : Nat → Int64} {pen : Int32} {last : Int32} {below : Int64}    : MM Z yX3_count cX3_count 2 (some .int) 4 [.ref (Z.2.2 0), .int (nI 6)] (wC Z (nI m) toll paid coin debt fall shr mat rgt pen last below) (some (.int paid)) (wC Z (nI m) toll paid coin debt fall shr mat rgt pen last below) := by
  refine MM.intro (by decide) [some (.ref (Z.2.2 0)), some (.int (nI 6))] rfl (Nat.le_of_ble_eq_true rfl) (fun X (h : OK Z X cX3_count RX3 2 (rmd 4)) hr => ?_)
  refine g_iload_n (i := 1) h dX3_count_0 rfl rfl (pc' := 1) rfl ?_
  refine g_tabIn (off := 92) (tg := 93) h dX3_count_1 (by decide) (by decide) (by decide) (by decide) ?_
  refine g_aload_n (i := 0) h dX3_count_93 rfl rfl (pc' := 94) rfl ?_
  refine gf_X3_10 h dX3_count_94 (pc' := 97) rfl ?_
  refine gf_X3_147 h dX3_count_97 (pc' := 100) rfl ?_
  exact g_iret h hr dX3_count_100 rfl rfl
set_option maxRecDepth 20000 in
set_option maxHeartbeats 4000000 in
theorem M_count_O {Z : ZT} {m : Nat} {toll : Int32} {paid : Int32} {coin : Nat → Int32} {debt : Nat → Int32} {fall : Nat → Int32} {shr : Nat → Int64} {mat : Nat → Int64} {rgt : Nat → Int64} {pen : Int32} {last : Int32} {below : Int64} {v : Int32}  (g0 : v.toInt < 0 ∨ 6 < v.toInt) : MM Z yX3_count cX3_count 2 (some .int) 4 [.ref (Z.2.2 0), .int v] (wC Z (nI m) toll paid coin debt fall shr mat rgt pen last below) (some (.int (-102))) (wC Z (nI m) toll paid coin debt fall shr mat rgt pen last below) := by
  refine MM.intro (by decide) [some (.ref (Z.2.2 0)), some (.int v)] rfl (Nat.le_of_ble_eq_true rfl) (fun X (h : OK Z X cX3_count RX3 2 (rmd 4)) hr => ?_)
  refine g_iload_n (i := 1) h dX3_count_0 rfl rfl (pc' := 1) rfl ?_
  refine g_tabOut (tg := 101) h dX3_count_1 g0 (by decide) ?_
  refine g_bipush (v := (-102)) h dX3_count_101 (by decide) (pc' := 103) rfl ?_
  exact g_iret h hr dX3_count_103 rfl rfl
set_option maxRecDepth 20000 in
set_option maxHeartbeats 4000000 in
theorem M_digest {Z : ZT} {m : Nat} {toll : Int32} {paid : Int32} {coin : Nat → Int32} {debt : Nat → Int32} {fall : Nat → Int32} {shr : Nat → Int64} {mat : Nat → Int64} {rgt : Nat → Int64} {pen : Int32} {last : Int32} {below : Int64}   (g0 : m ≤ 4) : MM Z yX3_digest cX3_digest 5 (some .long) 6 [.ref (Z.2.2 0)] (wC Z (nI m) toll paid coin debt fall shr mat rgt pen last below) (some (.long (31 * dg3 (cst toll (-1) coin debt fall shr mat rgt) (dg2 m coin debt (31 * (31 * 173 + (nI m).toInt64) + toll.toInt64) m) m + paid.toInt64))) (wC Z (nI m) toll paid coin debt ((cst toll (-1) coin debt fall shr mat rgt).1) ((cst toll (-1) coin debt fall shr mat rgt).2.1) ((cst toll (-1) coin debt fall shr mat rgt).2.2.1) ((cst toll (-1) coin debt fall shr mat rgt).2.2.2.1) (-1) ((cst toll (-1) coin debt fall shr mat rgt).2.2.2.2.1) ((cst toll (-1) coin debt fall shr mat rgt).2.2.2.2.2)) := by
  refine MM.intro (by decide) [some (.ref (Z.2.2 0)), none, none, none, none] rfl (Nat.le_of_ble_eq_true rfl) (fun X (h : OK Z X cX3_digest RX3 5 (rmd 6)) hr => ?_)
  refine g_ldc2 h dX3_digest_0 co_X3_150 (pc' := 3) rfl ?_
  refine g_lstore1 h dX3_digest_3 rfl (by decide) (pc' := 4) rfl ?_
  refine g_ldc2 h dX3_digest_4 co_X3_152 (pc' := 7) rfl ?_
  refine g_lload_n (i := 1) h dX3_digest_7 rfl rfl (pc' := 8) rfl ?_
  refine g_lmul h dX3_digest_8 (pc' := 9) rfl ?_
  refine g_aload_n (i := 0) h dX3_digest_9 rfl rfl (pc' := 10) rfl ?_
  refine gf_X3_10 h dX3_digest_10 (pc' := 13) rfl ?_
  refine gf_X3_116 h dX3_digest_13 (pc' := 16) rfl ?_
  refine g_i2l h dX3_digest_16 (pc' := 17) rfl ?_
  refine g_ladd h dX3_digest_17 (pc' := 18) rfl ?_
  refine g_lstore1 h dX3_digest_18 rfl (by decide) (pc' := 19) rfl ?_
  refine g_ldc2 h dX3_digest_19 co_X3_152 (pc' := 22) rfl ?_
  refine g_lload_n (i := 1) h dX3_digest_22 rfl rfl (pc' := 23) rfl ?_
  refine g_lmul h dX3_digest_23 (pc' := 24) rfl ?_
  refine g_aload_n (i := 0) h dX3_digest_24 rfl rfl (pc' := 25) rfl ?_
  refine gf_X3_10 h dX3_digest_25 (pc' := 28) rfl ?_
  refine gf_X3_62 h dX3_digest_28 (pc' := 31) rfl ?_
  refine g_i2l h dX3_digest_31 (pc' := 32) rfl ?_
  refine g_ladd h dX3_digest_32 (pc' := 33) rfl ?_
  refine g_lstore1 h dX3_digest_33 rfl (by decide) (pc' := 34) rfl ?_
  refine g_iconst (v := nI 0) h dX3_digest_34 (by decide) (pc' := 35) rfl ?_
  refine g_istore3 h dX3_digest_35 rfl (by decide) (pc' := 36) rfl ?_
  refine GG.castW (lp (P := fun i => GG Z X 36 [some (.ref (Z.2.2 0)), some (.long (dg2 m coin debt (31 * (31 * 173 + (nI m).toInt64) + toll.toInt64) i)), none, some (.int (nI i)), none] [] (wC Z (nI m) toll paid coin debt fall shr mat rgt pen last below)) m ?_ ?_) ⟨rfl, rfl, rfl, trivial⟩ rfl rfl
  · skip
    refine g_iload_n (i := 3) h dX3_digest_36 rfl rfl (pc' := 37) rfl ?_
    refine g_aload_n (i := 0) h dX3_digest_37 rfl rfl (pc' := 38) rfl ?_
    refine gf_X3_10 h dX3_digest_38 (pc' := 41) rfl ?_
    refine gf_X3_116 h dX3_digest_41 (pc' := 44) rfl ?_
    refine g_icmp_geT (tg := 125) h dX3_digest_44 (by decide) (Int32.le_refl _) ?_
    refine g_aload_n (i := 0) h dX3_digest_125 rfl rfl (pc' := 126) rfl ?_
    refine gf_X3_21 h dX3_digest_126 (pc' := 129) rfl ?_
    refine g_iconst (v := (-1)) h dX3_digest_129 (by decide) (pc' := 130) rfl ?_
    refine g_callV0 (q0 := 2) h dX3_digest_130 cf_X3_69 (M_X1_settle (p := (-1)) ) rfl rfl rfl rfl (by decide) rfl (Nat.le_of_ble_eq_true rfl) (pc' := 133) rfl ?_
    refine g_iconst (v := nI 0) h dX3_digest_133 (by decide) (pc' := 134) rfl ?_
    refine g_istore3 h dX3_digest_134 rfl (by decide) (pc' := 135) rfl ?_
    refine GG.castW (lp (P := fun i => GG Z X 135 [some (.ref (Z.2.2 0)), some (.long (dg3 (cst toll (-1) coin debt fall shr mat rgt) (dg2 m coin debt (31 * (31 * 173 + (nI m).toInt64) + toll.toInt64) m) i)), none, some (.int (nI i)), none] [] (wC Z (nI m) toll paid coin debt ((cst toll (-1) coin debt fall shr mat rgt).1) ((cst toll (-1) coin debt fall shr mat rgt).2.1) ((cst toll (-1) coin debt fall shr mat rgt).2.2.1) ((cst toll (-1) coin debt fall shr mat rgt).2.2.2.1) (-1) ((cst toll (-1) coin debt fall shr mat rgt).2.2.2.2.1) ((cst toll (-1) coin debt fall shr mat rgt).2.2.2.2.2))) m ?_ ?_) ⟨rfl, rfl, rfl, trivial⟩ rfl rfl
    · skip
      refine g_iload_n (i := 3) h dX3_digest_135 rfl rfl (pc' := 136) rfl ?_
      refine g_aload_n (i := 0) h dX3_digest_136 rfl rfl (pc' := 137) rfl ?_
      refine gf_X3_10 h dX3_digest_137 (pc' := 140) rfl ?_
      refine gf_X3_116 h dX3_digest_140 (pc' := 143) rfl ?_
      refine g_icmp_geT (tg := 220) h dX3_digest_143 (by decide) (Int32.le_refl _) ?_
      refine g_ldc2 h dX3_digest_220 co_X3_152 (pc' := 223) rfl ?_
      refine g_lload_n (i := 1) h dX3_digest_223 rfl rfl (pc' := 224) rfl ?_
      refine g_lmul h dX3_digest_224 (pc' := 225) rfl ?_
      refine g_aload_n (i := 0) h dX3_digest_225 rfl rfl (pc' := 226) rfl ?_
      refine gf_X3_10 h dX3_digest_226 (pc' := 229) rfl ?_
      refine gf_X3_147 h dX3_digest_229 (pc' := 232) rfl ?_
      refine g_i2l h dX3_digest_232 (pc' := 233) rfl ?_
      refine g_ladd h dX3_digest_233 (pc' := 234) rfl ?_
      exact g_lret h hr dX3_digest_234 rfl rfl
    · intro i hi ih135
      refine g_iload_n (i := 3) h dX3_digest_135 rfl rfl (pc' := 136) rfl ?_
      refine g_aload_n (i := 0) h dX3_digest_136 rfl rfl (pc' := 137) rfl ?_
      refine gf_X3_10 h dX3_digest_137 (pc' := 140) rfl ?_
      refine gf_X3_116 h dX3_digest_140 (pc' := 143) rfl ?_
      refine g_icmp_geF (tg := 220) h dX3_digest_143 (by decide) (pc' := 146) rfl (nI_ge hi (by omega)) ?_
      refine g_ldc2 h dX3_digest_146 co_X3_152 (pc' := 149) rfl ?_
      refine g_lload_n (i := 1) h dX3_digest_149 rfl rfl (pc' := 150) rfl ?_
      refine g_lmul h dX3_digest_150 (pc' := 151) rfl ?_
      refine g_aload_n (i := 0) h dX3_digest_151 rfl rfl (pc' := 152) rfl ?_
      refine gf_X3_21 h dX3_digest_152 (pc' := 155) rfl ?_
      refine g_iload_n (i := 3) h dX3_digest_155 rfl rfl (pc' := 156) rfl ?_
      refine g_callV1 (q0 := 2) h dX3_digest_156 cf_X3_72 (M_X1_roundOfFall (i := i) (by omega)) rfl rfl rfl rfl (by decide) rfl (Nat.le_of_ble_eq_true rfl) (pc' := 159) rfl ?_
      refine g_i2l h dX3_digest_159 (pc' := 160) rfl ?_
      refine g_ladd h dX3_digest_160 (pc' := 161) rfl ?_
      refine g_lstore1 h dX3_digest_161 rfl (by decide) (pc' := 162) rfl ?_
      refine g_ldc2 h dX3_digest_162 co_X3_152 (pc' := 165) rfl ?_
      refine g_lload_n (i := 1) h dX3_digest_165 rfl rfl (pc' := 166) rfl ?_
      refine g_lmul h dX3_digest_166 (pc' := 167) rfl ?_
      refine g_aload_n (i := 0) h dX3_digest_167 rfl rfl (pc' := 168) rfl ?_
      refine gf_X3_21 h dX3_digest_168 (pc' := 171) rfl ?_
      refine g_iload_n (i := 3) h dX3_digest_171 rfl rfl (pc' := 172) rfl ?_
      refine g_callV1 (q0 := 2) h dX3_digest_172 cf_X3_85 (M_X1_shareAbove (i := i) (by omega)) rfl rfl rfl rfl (by decide) rfl (Nat.le_of_ble_eq_true rfl) (pc' := 175) rfl ?_
      refine g_aload_n (i := 0) h dX3_digest_175 rfl rfl (pc' := 176) rfl ?_
      refine gf_X3_21 h dX3_digest_176 (pc' := 179) rfl ?_
      refine gf_X3_89 h dX3_digest_179 (pc' := 182) rfl ?_
      refine g_iconst (v := nI 0) h dX3_digest_182 (by decide) (pc' := 183) rfl ?_
      refine g_callS1 h dX3_digest_183 cf_X3_93 (M_X3_lowestTerms (a := ((cst toll (-1) coin debt fall shr mat rgt).2.1) i) (b := (cst toll (-1) coin debt fall shr mat rgt).2.2.2.2.2) (p := nI 0) ) rfl (by decide) rfl (Nat.le_of_ble_eq_true rfl) (pc' := 186) rfl ?_
      refine g_ladd h dX3_digest_186 (pc' := 187) rfl ?_
      refine g_lstore1 h dX3_digest_187 rfl (by decide) (pc' := 188) rfl ?_
      refine g_ldc2 h dX3_digest_188 co_X3_152 (pc' := 191) rfl ?_
      refine g_lload_n (i := 1) h dX3_digest_191 rfl rfl (pc' := 192) rfl ?_
      refine g_lmul h dX3_digest_192 (pc' := 193) rfl ?_
      refine g_aload_n (i := 0) h dX3_digest_193 rfl rfl (pc' := 194) rfl ?_
      refine gf_X3_21 h dX3_digest_194 (pc' := 197) rfl ?_
      refine g_iload_n (i := 3) h dX3_digest_197 rfl rfl (pc' := 198) rfl ?_
      refine g_callV1 (q0 := 2) h dX3_digest_198 cf_X3_85 (M_X1_shareAbove (i := i) (by omega)) rfl rfl rfl rfl (by decide) rfl (Nat.le_of_ble_eq_true rfl) (pc' := 201) rfl ?_
      refine g_aload_n (i := 0) h dX3_digest_201 rfl rfl (pc' := 202) rfl ?_
      refine gf_X3_21 h dX3_digest_202 (pc' := 205) rfl ?_
      refine gf_X3_89 h dX3_digest_205 (pc' := 208) rfl ?_
      refine g_iconst (v := nI 1) h dX3_digest_208 (by decide) (pc' := 209) rfl ?_
      refine g_callS1 h dX3_digest_209 cf_X3_93 (M_X3_lowestTerms (a := ((cst toll (-1) coin debt fall shr mat rgt).2.1) i) (b := (cst toll (-1) coin debt fall shr mat rgt).2.2.2.2.2) (p := nI 1) ) rfl (by decide) rfl (Nat.le_of_ble_eq_true rfl) (pc' := 212) rfl ?_
      refine g_ladd h dX3_digest_212 (pc' := 213) rfl ?_
      refine g_lstore1 h dX3_digest_213 rfl (by decide) (pc' := 214) rfl ?_
      refine g_iinc3 (v := nI (i + 1)) h dX3_digest_214 rfl (inc1 i) (by decide) (pc' := 217) rfl ?_
      refine g_goto (pc' := 135) h dX3_digest_217 (by decide) ?_
      exact GG.castW ih135 ⟨rfl, rfl, rfl, trivial⟩ rfl rfl
  · intro i hi ih36
    refine g_iload_n (i := 3) h dX3_digest_36 rfl rfl (pc' := 37) rfl ?_
    refine g_aload_n (i := 0) h dX3_digest_37 rfl rfl (pc' := 38) rfl ?_
    refine gf_X3_10 h dX3_digest_38 (pc' := 41) rfl ?_
    refine gf_X3_116 h dX3_digest_41 (pc' := 44) rfl ?_
    refine g_icmp_geF (tg := 125) h dX3_digest_44 (by decide) (pc' := 47) rfl (nI_ge hi (by omega)) ?_
    refine g_ldc2 h dX3_digest_47 co_X3_152 (pc' := 50) rfl ?_
    refine g_lload_n (i := 1) h dX3_digest_50 rfl rfl (pc' := 51) rfl ?_
    refine g_lmul h dX3_digest_51 (pc' := 52) rfl ?_
    refine g_aload_n (i := 0) h dX3_digest_52 rfl rfl (pc' := 53) rfl ?_
    refine gf_X3_10 h dX3_digest_53 (pc' := 56) rfl ?_
    refine g_iload_n (i := 3) h dX3_digest_56 rfl rfl (pc' := 57) rfl ?_
    refine g_callV1 (q0 := 1) h dX3_digest_57 cf_X3_40 (M_X0_coins (i := i) (by omega)) rfl rfl rfl rfl (by decide) rfl (Nat.le_of_ble_eq_true rfl) (pc' := 60) rfl ?_
    refine g_i2l h dX3_digest_60 (pc' := 61) rfl ?_
    refine g_ladd h dX3_digest_61 (pc' := 62) rfl ?_
    refine g_lstore1 h dX3_digest_62 rfl (by decide) (pc' := 63) rfl ?_
    refine g_iconst (v := nI 0) h dX3_digest_63 (by decide) (pc' := 64) rfl ?_
    refine g_istore4 h dX3_digest_64 rfl (by decide) (pc' := 66) rfl ?_
    refine GG.castW (lp (P := fun j => GG Z X 66 [some (.ref (Z.2.2 0)), some (.long (dg1 debt i (31 * dg2 m coin debt (31 * (31 * 173 + (nI m).toInt64) + toll.toInt64) i + (coin i).toInt64) j)), none, some (.int (nI i)), some (.int (nI j))] [] (wC Z (nI m) toll paid coin debt fall shr mat rgt pen last below)) m ?_ ?_) ⟨rfl, rfl, rfl, rfl, trivial⟩ rfl rfl
    · skip
      refine g_iload h dX3_digest_66 rfl (pc' := 68) rfl ?_
      refine g_aload_n (i := 0) h dX3_digest_68 rfl rfl (pc' := 69) rfl ?_
      refine gf_X3_10 h dX3_digest_69 (pc' := 72) rfl ?_
      refine gf_X3_116 h dX3_digest_72 (pc' := 75) rfl ?_
      refine g_icmp_geT (tg := 102) h dX3_digest_75 (by decide) (Int32.le_refl _) ?_
      refine g_ldc2 h dX3_digest_102 co_X3_152 (pc' := 105) rfl ?_
      refine g_lload_n (i := 1) h dX3_digest_105 rfl rfl (pc' := 106) rfl ?_
      refine g_lmul h dX3_digest_106 (pc' := 107) rfl ?_
      refine g_aload_n (i := 0) h dX3_digest_107 rfl rfl (pc' := 108) rfl ?_
      refine gf_X3_10 h dX3_digest_108 (pc' := 111) rfl ?_
      refine g_iload_n (i := 3) h dX3_digest_111 rfl rfl (pc' := 112) rfl ?_
      refine g_iconst (v := nI 4) h dX3_digest_112 (by decide) (pc' := 113) rfl ?_
      refine g_callV1 (q0 := 1) h dX3_digest_113 cf_X3_54 (M_X0_owed (i := i) (c := 4) (by omega) (by omega)) rfl rfl rfl rfl (by decide) rfl (Nat.le_of_ble_eq_true rfl) (pc' := 116) rfl ?_
      refine g_i2l h dX3_digest_116 (pc' := 117) rfl ?_
      refine g_ladd h dX3_digest_117 (pc' := 118) rfl ?_
      refine g_lstore1 h dX3_digest_118 rfl (by decide) (pc' := 119) rfl ?_
      refine g_iinc3 (v := nI (i + 1)) h dX3_digest_119 rfl (inc1 i) (by decide) (pc' := 122) rfl ?_
      refine g_goto (pc' := 36) h dX3_digest_122 (by decide) ?_
      exact GG.castW ih36 ⟨rfl, rfl, rfl, trivial⟩ rfl rfl
    · intro j hj ih66
      refine g_iload h dX3_digest_66 rfl (pc' := 68) rfl ?_
      refine g_aload_n (i := 0) h dX3_digest_68 rfl rfl (pc' := 69) rfl ?_
      refine gf_X3_10 h dX3_digest_69 (pc' := 72) rfl ?_
      refine gf_X3_116 h dX3_digest_72 (pc' := 75) rfl ?_
      refine g_icmp_geF (tg := 102) h dX3_digest_75 (by decide) (pc' := 78) rfl (nI_ge hj (by omega)) ?_
      refine g_ldc2 h dX3_digest_78 co_X3_152 (pc' := 81) rfl ?_
      refine g_lload_n (i := 1) h dX3_digest_81 rfl rfl (pc' := 82) rfl ?_
      refine g_lmul h dX3_digest_82 (pc' := 83) rfl ?_
      refine g_aload_n (i := 0) h dX3_digest_83 rfl rfl (pc' := 84) rfl ?_
      refine gf_X3_10 h dX3_digest_84 (pc' := 87) rfl ?_
      refine g_iload_n (i := 3) h dX3_digest_87 rfl rfl (pc' := 88) rfl ?_
      refine g_iload h dX3_digest_88 rfl (pc' := 90) rfl ?_
      refine g_callV1 (q0 := 1) h dX3_digest_90 cf_X3_54 (M_X0_owed (i := i) (c := j) (by omega) (by omega)) rfl rfl rfl rfl (by decide) rfl (Nat.le_of_ble_eq_true rfl) (pc' := 93) rfl ?_
      refine g_i2l h dX3_digest_93 (pc' := 94) rfl ?_
      refine g_ladd h dX3_digest_94 (pc' := 95) rfl ?_
      refine g_lstore1 h dX3_digest_95 rfl (by decide) (pc' := 96) rfl ?_
      refine g_iinc4 (v := nI (j + 1)) h dX3_digest_96 rfl (inc1 j) (by decide) (pc' := 99) rfl ?_
      refine g_goto (pc' := 66) h dX3_digest_99 (by decide) ?_
      exact GG.castW ih66 ⟨rfl, rfl, rfl, rfl, trivial⟩ rfl rfl
end
