-- ===== PART A: goes FIRST, ahead of the names: the tables' words, and 'selects' of the private methods out of them =====
/-- a private method of a class that the tables say can be made, by its rows of tables_1 -/
def lw_okq (q : MethodName × Nat) : Prop := (q.1.cls ≠ "java/lang/invoke/MethodHandle" ∧ q.1.cls ≠ "java/lang/invoke/VarHandle") ∧ Cond.instantiable q.1.cls q.2 ∈ tables_1 ∧ Cond.privateMethod q.1 ∈ tables_1 ∧ Cond.instanceMethod q.1 ∈ tables_1
theorem lw_p0 : lw_okq (⟨"Ferrytax", "requireKind", "(I)V"⟩, 7) := ⟨⟨by decide +kernel, by decide +kernel⟩, List.mem_of_getElem? (i := 24) (by decide +kernel), List.mem_of_getElem? (i := 140) (by decide +kernel), List.mem_of_getElem? (i := 141) (by decide +kernel)⟩
theorem lw_p1 : lw_okq (⟨"java/lang/Throwable", "fillInStackTrace", "(I)Ljava/lang/Throwable;"⟩, 6) := ⟨⟨by decide +kernel, by decide +kernel⟩, List.mem_of_getElem? (i := 182) (by decide +kernel), List.mem_of_getElem? (i := 180) (by decide +kernel), List.mem_of_getElem? (i := 181) (by decide +kernel)⟩
theorem lw_p2 : lw_okq (⟨"Ferrytax", "requireShop", "(I)V"⟩, 7) := ⟨⟨by decide +kernel, by decide +kernel⟩, List.mem_of_getElem? (i := 24) (by decide +kernel), List.mem_of_getElem? (i := 236) (by decide +kernel), List.mem_of_getElem? (i := 237) (by decide +kernel)⟩
theorem lw_p3 : lw_okq (⟨"Ferrytax", "travellerNumbered", "(I)LFerrytax$Traveller;"⟩, 7) := ⟨⟨by decide +kernel, by decide +kernel⟩, List.mem_of_getElem? (i := 24) (by decide +kernel), List.mem_of_getElem? (i := 241) (by decide +kernel), List.mem_of_getElem? (i := 242) (by decide +kernel)⟩
theorem lw_p4 : lw_okq (⟨"Ferrytax", "requireTraveller", "(I)V"⟩, 7) := ⟨⟨by decide +kernel, by decide +kernel⟩, List.mem_of_getElem? (i := 24) (by decide +kernel), List.mem_of_getElem? (i := 245) (by decide +kernel), List.mem_of_getElem? (i := 246) (by decide +kernel)⟩
theorem lw_p5 : lw_okq (⟨"Ferrytax", "requireOnIsland", "(LFerrytax$Traveller;)V"⟩, 7) := ⟨⟨by decide +kernel, by decide +kernel⟩, List.mem_of_getElem? (i := 24) (by decide +kernel), List.mem_of_getElem? (i := 251) (by decide +kernel), List.mem_of_getElem? (i := 252) (by decide +kernel)⟩
theorem lw_p6 : lw_okq (⟨"Ferrytax", "receiptNumbered", "(I)LFerrytax$Receipt;"⟩, 7) := ⟨⟨by decide +kernel, by decide +kernel⟩, List.mem_of_getElem? (i := 24) (by decide +kernel), List.mem_of_getElem? (i := 279) (by decide +kernel), List.mem_of_getElem? (i := 280) (by decide +kernel)⟩
theorem lw_p7 : lw_okq (⟨"Ferrytax", "requireOpen", "(LFerrytax$Receipt;)V"⟩, 7) := ⟨⟨by decide +kernel, by decide +kernel⟩, List.mem_of_getElem? (i := 24) (by decide +kernel), List.mem_of_getElem? (i := 284) (by decide +kernel), List.mem_of_getElem? (i := 285) (by decide +kernel)⟩
theorem lw_p8 : lw_okq (⟨"Ferrytax", "ferryNumbered", "(I)LFerrytax$Ferry;"⟩, 7) := ⟨⟨by decide +kernel, by decide +kernel⟩, List.mem_of_getElem? (i := 24) (by decide +kernel), List.mem_of_getElem? (i := 307) (by decide +kernel), List.mem_of_getElem? (i := 308) (by decide +kernel)⟩
theorem lw_p9 : lw_okq (⟨"Ferrytax", "requireNotSailed", "(LFerrytax$Ferry;)V"⟩, 7) := ⟨⟨by decide +kernel, by decide +kernel⟩, List.mem_of_getElem? (i := 24) (by decide +kernel), List.mem_of_getElem? (i := 312) (by decide +kernel), List.mem_of_getElem? (i := 313) (by decide +kernel)⟩
theorem lw_p10 : lw_okq (⟨"Ferrytax", "seatsLeft", "(LFerrytax$Ferry;)I"⟩, 7) := ⟨⟨by decide +kernel, by decide +kernel⟩, List.mem_of_getElem? (i := 24) (by decide +kernel), List.mem_of_getElem? (i := 318) (by decide +kernel), List.mem_of_getElem? (i := 319) (by decide +kernel)⟩
theorem lw_p11 : lw_okq (⟨"Ferrytax", "placesWith", "(LFerrytax$Ferry;I)I"⟩, 7) := ⟨⟨by decide +kernel, by decide +kernel⟩, List.mem_of_getElem? (i := 24) (by decide +kernel), List.mem_of_getElem? (i := 322) (by decide +kernel), List.mem_of_getElem? (i := 323) (by decide +kernel)⟩
theorem lw_p12 : lw_okq (⟨"Ferrytax", "requireSeat", "(LFerrytax$Ferry;I)V"⟩, 7) := ⟨⟨by decide +kernel, by decide +kernel⟩, List.mem_of_getElem? (i := 24) (by decide +kernel), List.mem_of_getElem? (i := 334) (by decide +kernel), List.mem_of_getElem? (i := 335) (by decide +kernel)⟩
theorem lw_p13 : lw_okq (⟨"Ferrytax", "reopenStamped", "(II)I"⟩, 7) := ⟨⟨by decide +kernel, by decide +kernel⟩, List.mem_of_getElem? (i := 24) (by decide +kernel), List.mem_of_getElem? (i := 339) (by decide +kernel), List.mem_of_getElem? (i := 340) (by decide +kernel)⟩
theorem lw_p14 : lw_okq (⟨"Ferrytax", "isStampedFor", "(LFerrytax$Receipt;II)Z"⟩, 7) := ⟨⟨by decide +kernel, by decide +kernel⟩, List.mem_of_getElem? (i := 24) (by decide +kernel), List.mem_of_getElem? (i := 343) (by decide +kernel), List.mem_of_getElem? (i := 344) (by decide +kernel)⟩
theorem lw_p15 : lw_okq (⟨"Ferrytax", "takeStampOff", "(LFerrytax$Receipt;I)V"⟩, 7) := ⟨⟨by decide +kernel, by decide +kernel⟩, List.mem_of_getElem? (i := 24) (by decide +kernel), List.mem_of_getElem? (i := 347) (by decide +kernel), List.mem_of_getElem? (i := 348) (by decide +kernel)⟩
def lw_privs_1 : List (MethodName × Nat) := [(⟨"Ferrytax", "requireKind", "(I)V"⟩, 7), (⟨"java/lang/Throwable", "fillInStackTrace", "(I)Ljava/lang/Throwable;"⟩, 6), (⟨"Ferrytax", "requireShop", "(I)V"⟩, 7), (⟨"Ferrytax", "travellerNumbered", "(I)LFerrytax$Traveller;"⟩, 7), (⟨"Ferrytax", "requireTraveller", "(I)V"⟩, 7), (⟨"Ferrytax", "requireOnIsland", "(LFerrytax$Traveller;)V"⟩, 7), (⟨"Ferrytax", "receiptNumbered", "(I)LFerrytax$Receipt;"⟩, 7), (⟨"Ferrytax", "requireOpen", "(LFerrytax$Receipt;)V"⟩, 7), (⟨"Ferrytax", "ferryNumbered", "(I)LFerrytax$Ferry;"⟩, 7), (⟨"Ferrytax", "requireNotSailed", "(LFerrytax$Ferry;)V"⟩, 7), (⟨"Ferrytax", "seatsLeft", "(LFerrytax$Ferry;)I"⟩, 7), (⟨"Ferrytax", "placesWith", "(LFerrytax$Ferry;I)I"⟩, 7), (⟨"Ferrytax", "requireSeat", "(LFerrytax$Ferry;I)V"⟩, 7), (⟨"Ferrytax", "reopenStamped", "(II)I"⟩, 7), (⟨"Ferrytax", "isStampedFor", "(LFerrytax$Receipt;II)Z"⟩, 7), (⟨"Ferrytax", "takeStampOff", "(LFerrytax$Receipt;I)V"⟩, 7)]
theorem lw_r1 : ∀ q ∈ lw_privs_1, lw_okq q := List.forall_mem_cons.mpr ⟨lw_p0, List.forall_mem_cons.mpr ⟨lw_p1, List.forall_mem_cons.mpr ⟨lw_p2, List.forall_mem_cons.mpr ⟨lw_p3, List.forall_mem_cons.mpr ⟨lw_p4, List.forall_mem_cons.mpr ⟨lw_p5, List.forall_mem_cons.mpr ⟨lw_p6, List.forall_mem_cons.mpr ⟨lw_p7, List.forall_mem_cons.mpr ⟨lw_p8, List.forall_mem_cons.mpr ⟨lw_p9, List.forall_mem_cons.mpr ⟨lw_p10, List.forall_mem_cons.mpr ⟨lw_p11, List.forall_mem_cons.mpr ⟨lw_p12, List.forall_mem_cons.mpr ⟨lw_p13, List.forall_mem_cons.mpr ⟨lw_p14, List.forall_mem_cons.mpr ⟨lw_p15, fun _ h => absurd h List.not_mem_nil⟩⟩⟩⟩⟩⟩⟩⟩⟩⟩⟩⟩⟩⟩⟩⟩
theorem lw_p16 : lw_okq (⟨"Ferrytax", "requireWithin", "(LFerrytax$Ferry;I)V"⟩, 7) := ⟨⟨by decide +kernel, by decide +kernel⟩, List.mem_of_getElem? (i := 24) (by decide +kernel), List.mem_of_getElem? (i := 358) (by decide +kernel), List.mem_of_getElem? (i := 359) (by decide +kernel)⟩
theorem lw_p17 : lw_okq (⟨"Ferrytax", "isAboardSomewhere", "(I)Z"⟩, 7) := ⟨⟨by decide +kernel, by decide +kernel⟩, List.mem_of_getElem? (i := 24) (by decide +kernel), List.mem_of_getElem? (i := 363) (by decide +kernel), List.mem_of_getElem? (i := 364) (by decide +kernel)⟩
theorem lw_p18 : lw_okq (⟨"Ferrytax", "sailAllOfNow", "()V"⟩, 7) := ⟨⟨by decide +kernel, by decide +kernel⟩, List.mem_of_getElem? (i := 24) (by decide +kernel), List.mem_of_getElem? (i := 401) (by decide +kernel), List.mem_of_getElem? (i := 402) (by decide +kernel)⟩
theorem lw_p19 : lw_okq (⟨"Ferrytax", "sail", "(I)V"⟩, 7) := ⟨⟨by decide +kernel, by decide +kernel⟩, List.mem_of_getElem? (i := 24) (by decide +kernel), List.mem_of_getElem? (i := 405) (by decide +kernel), List.mem_of_getElem? (i := 406) (by decide +kernel)⟩
theorem lw_p20 : lw_okq (⟨"Ferrytax", "payStamped", "(II)V"⟩, 7) := ⟨⟨by decide +kernel, by decide +kernel⟩, List.mem_of_getElem? (i := 24) (by decide +kernel), List.mem_of_getElem? (i := 409) (by decide +kernel), List.mem_of_getElem? (i := 410) (by decide +kernel)⟩
theorem lw_p21 : lw_okq (⟨"Ferrytax", "refundOfTax", "(I)I"⟩, 7) := ⟨⟨by decide +kernel, by decide +kernel⟩, List.mem_of_getElem? (i := 24) (by decide +kernel), List.mem_of_getElem? (i := 413) (by decide +kernel), List.mem_of_getElem? (i := 414) (by decide +kernel)⟩
theorem lw_p22 : lw_okq (⟨"Ferrytax", "wasteStamped", "(II)V"⟩, 7) := ⟨⟨by decide +kernel, by decide +kernel⟩, List.mem_of_getElem? (i := 24) (by decide +kernel), List.mem_of_getElem? (i := 420) (by decide +kernel), List.mem_of_getElem? (i := 421) (by decide +kernel)⟩
theorem lw_p23 : lw_okq (⟨"Ferrytax", "appendBackwards", "(Ljava/lang/StringBuilder;I)V"⟩, 7) := ⟨⟨by decide +kernel, by decide +kernel⟩, List.mem_of_getElem? (i := 24) (by decide +kernel), List.mem_of_getElem? (i := 597) (by decide +kernel), List.mem_of_getElem? (i := 598) (by decide +kernel)⟩
theorem lw_p24 : lw_okq (⟨"Ferrytax", "refundsOfSailing", "(II)I"⟩, 7) := ⟨⟨by decide +kernel, by decide +kernel⟩, List.mem_of_getElem? (i := 24) (by decide +kernel), List.mem_of_getElem? (i := 634) (by decide +kernel), List.mem_of_getElem? (i := 635) (by decide +kernel)⟩
theorem lw_p25 : lw_okq (⟨"FerrytaxModel", "in", "(III)Z"⟩, 25) := ⟨⟨by decide +kernel, by decide +kernel⟩, List.mem_of_getElem? (i := 645) (by decide +kernel), List.mem_of_getElem? (i := 735) (by decide +kernel), List.mem_of_getElem? (i := 736) (by decide +kernel)⟩
theorem lw_p26 : lw_okq (⟨"FerrytaxModel", "holds", "(I)Z"⟩, 25) := ⟨⟨by decide +kernel, by decide +kernel⟩, List.mem_of_getElem? (i := 645) (by decide +kernel), List.mem_of_getElem? (i := 739) (by decide +kernel), List.mem_of_getElem? (i := 740) (by decide +kernel)⟩
theorem lw_p27 : lw_okq (⟨"FerrytaxModel", "isReceipt", "(I)Z"⟩, 25) := ⟨⟨by decide +kernel, by decide +kernel⟩, List.mem_of_getElem? (i := 645) (by decide +kernel), List.mem_of_getElem? (i := 751) (by decide +kernel), List.mem_of_getElem? (i := 752) (by decide +kernel)⟩
theorem lw_p28 : lw_okq (⟨"FerrytaxModel", "isFerry", "(I)Z"⟩, 25) := ⟨⟨by decide +kernel, by decide +kernel⟩, List.mem_of_getElem? (i := 645) (by decide +kernel), List.mem_of_getElem? (i := 763) (by decide +kernel), List.mem_of_getElem? (i := 764) (by decide +kernel)⟩
theorem lw_p29 : lw_okq (⟨"FerrytaxModel", "left", "(I)I"⟩, 25) := ⟨⟨by decide +kernel, by decide +kernel⟩, List.mem_of_getElem? (i := 645) (by decide +kernel), List.mem_of_getElem? (i := 767) (by decide +kernel), List.mem_of_getElem? (i := 768) (by decide +kernel)⟩
theorem lw_p30 : lw_okq (⟨"FerrytaxModel", "hasSeat", "(II)Z"⟩, 25) := ⟨⟨by decide +kernel, by decide +kernel⟩, List.mem_of_getElem? (i := 645) (by decide +kernel), List.mem_of_getElem? (i := 771) (by decide +kernel), List.mem_of_getElem? (i := 772) (by decide +kernel)⟩
theorem lw_p31 : lw_okq (⟨"FerrytaxModel", "sails", "(I)V"⟩, 25) := ⟨⟨by decide +kernel, by decide +kernel⟩, List.mem_of_getElem? (i := 645) (by decide +kernel), List.mem_of_getElem? (i := 799) (by decide +kernel), List.mem_of_getElem? (i := 800) (by decide +kernel)⟩
def lw_privs_2 : List (MethodName × Nat) := [(⟨"Ferrytax", "requireWithin", "(LFerrytax$Ferry;I)V"⟩, 7), (⟨"Ferrytax", "isAboardSomewhere", "(I)Z"⟩, 7), (⟨"Ferrytax", "sailAllOfNow", "()V"⟩, 7), (⟨"Ferrytax", "sail", "(I)V"⟩, 7), (⟨"Ferrytax", "payStamped", "(II)V"⟩, 7), (⟨"Ferrytax", "refundOfTax", "(I)I"⟩, 7), (⟨"Ferrytax", "wasteStamped", "(II)V"⟩, 7), (⟨"Ferrytax", "appendBackwards", "(Ljava/lang/StringBuilder;I)V"⟩, 7), (⟨"Ferrytax", "refundsOfSailing", "(II)I"⟩, 7), (⟨"FerrytaxModel", "in", "(III)Z"⟩, 25), (⟨"FerrytaxModel", "holds", "(I)Z"⟩, 25), (⟨"FerrytaxModel", "isReceipt", "(I)Z"⟩, 25), (⟨"FerrytaxModel", "isFerry", "(I)Z"⟩, 25), (⟨"FerrytaxModel", "left", "(I)I"⟩, 25), (⟨"FerrytaxModel", "hasSeat", "(II)Z"⟩, 25), (⟨"FerrytaxModel", "sails", "(I)V"⟩, 25)]
theorem lw_r2 : ∀ q ∈ lw_privs_2, lw_okq q := List.forall_mem_cons.mpr ⟨lw_p16, List.forall_mem_cons.mpr ⟨lw_p17, List.forall_mem_cons.mpr ⟨lw_p18, List.forall_mem_cons.mpr ⟨lw_p19, List.forall_mem_cons.mpr ⟨lw_p20, List.forall_mem_cons.mpr ⟨lw_p21, List.forall_mem_cons.mpr ⟨lw_p22, List.forall_mem_cons.mpr ⟨lw_p23, List.forall_mem_cons.mpr ⟨lw_p24, List.forall_mem_cons.mpr ⟨lw_p25, List.forall_mem_cons.mpr ⟨lw_p26, List.forall_mem_cons.mpr ⟨lw_p27, List.forall_mem_cons.mpr ⟨lw_p28, List.forall_mem_cons.mpr ⟨lw_p29, List.forall_mem_cons.mpr ⟨lw_p30, List.forall_mem_cons.mpr ⟨lw_p31, fun _ h => absurd h List.not_mem_nil⟩⟩⟩⟩⟩⟩⟩⟩⟩⟩⟩⟩⟩⟩⟩⟩
theorem lw_p32 : lw_okq (⟨"FerrytaxModel", "pays", "(I)V"⟩, 25) := ⟨⟨by decide +kernel, by decide +kernel⟩, List.mem_of_getElem? (i := 645) (by decide +kernel), List.mem_of_getElem? (i := 803) (by decide +kernel), List.mem_of_getElem? (i := 804) (by decide +kernel)⟩
theorem lw_p33 : lw_okq (⟨"FerrytaxModel", "fails", "(I)V"⟩, 25) := ⟨⟨by decide +kernel, by decide +kernel⟩, List.mem_of_getElem? (i := 645) (by decide +kernel), List.mem_of_getElem? (i := 807) (by decide +kernel), List.mem_of_getElem? (i := 808) (by decide +kernel)⟩
theorem lw_p34 : lw_okq (⟨"FerrytaxModel", "digits", "(I)I"⟩, 25) := ⟨⟨by decide +kernel, by decide +kernel⟩, List.mem_of_getElem? (i := 645) (by decide +kernel), List.mem_of_getElem? (i := 819) (by decide +kernel), List.mem_of_getElem? (i := 820) (by decide +kernel)⟩
theorem lw_p35 : lw_okq (⟨"FerrytaxModel", "digit", "(II)C"⟩, 25) := ⟨⟨by decide +kernel, by decide +kernel⟩, List.mem_of_getElem? (i := 645) (by decide +kernel), List.mem_of_getElem? (i := 823) (by decide +kernel), List.mem_of_getElem? (i := 824) (by decide +kernel)⟩
def lw_privs_3 : List (MethodName × Nat) := [(⟨"FerrytaxModel", "pays", "(I)V"⟩, 25), (⟨"FerrytaxModel", "fails", "(I)V"⟩, 25), (⟨"FerrytaxModel", "digits", "(I)I"⟩, 25), (⟨"FerrytaxModel", "digit", "(II)C"⟩, 25)]
theorem lw_r3 : ∀ q ∈ lw_privs_3, lw_okq q := List.forall_mem_cons.mpr ⟨lw_p32, List.forall_mem_cons.mpr ⟨lw_p33, List.forall_mem_cons.mpr ⟨lw_p34, List.forall_mem_cons.mpr ⟨lw_p35, fun _ h => absurd h List.not_mem_nil⟩⟩⟩⟩
def lw_privs : List (MethodName × Nat) := lw_privs_1 ++ (lw_privs_2 ++ (lw_privs_3))
def lw_tbl : List Cond := k2_sels lw_privs ++ tables_1
theorem lw_privs_ok : ∀ q ∈ lw_privs, lw_okq q := by
  show ∀ q ∈ lw_privs_1 ++ (lw_privs_2 ++ (lw_privs_3)), lw_okq q
  exact List.forall_mem_append.mpr ⟨lw_r1, List.forall_mem_append.mpr ⟨lw_r2, lw_r3⟩⟩

/-! ===== BEGIN printed: names, fields, word lists, decode rows ===== -/
def RX0 : String := "Ferrytax$Ferry"
def TX0 : u_T := fun k => match k with
  | 0 => ("Ferrytax$Ferry", "sailsAt", "I", false)
  | 1 => ("Ferrytax$Ferry", "seats", "I", false)
  | _ => ("Ferrytax$Ferry", "places", "[I", true)
def tyX0 : Nat → FieldType := fun k => match k with
  | 0 => .int
  | 1 => .int
  | _ => .array .int
abbrev wsX00 : List Cond := u_ws RX0 TX0 3
theorem nmX0 : ∀ a, a < 3 → ∀ b, b < 3 → a ≠ b → (TX0 a).2.1 ≠ (TX0 b).2.1 := by decide +kernel
theorem tyX0_ok : ∀ k, k < 3 → parseFieldDescriptor (TX0 k).2.2.1 = some (tyX0 k) := by decide +kernel
abbrev cX0_init : ByteArray := prog_2_method_1_code
def yX0_init : MethodName := ⟨RX0, "<init>", "()V"⟩
def RX1 : String := "Ferrytax$Receipt"
def TX1 : u_T := fun k => match k with
  | 0 => ("Ferrytax$Receipt", "shop", "I", false)
  | 1 => ("Ferrytax$Receipt", "traveller", "I", false)
  | 2 => ("Ferrytax$Receipt", "price", "I", false)
  | 3 => ("Ferrytax$Receipt", "tax", "I", false)
  | 4 => ("Ferrytax$Receipt", "boughtAt", "I", false)
  | 5 => ("Ferrytax$Receipt", "state", "I", false)
  | 6 => ("Ferrytax$Receipt", "stampedFor", "I", false)
  | 7 => ("Ferrytax$Receipt", "refund", "I", false)
  | _ => ("Ferrytax$Receipt", "wastedStamps", "I", false)
def tyX1 : Nat → FieldType := fun k => match k with
  | 0 => .int
  | 1 => .int
  | 2 => .int
  | 3 => .int
  | 4 => .int
  | 5 => .int
  | 6 => .int
  | 7 => .int
  | _ => .int
abbrev wsX10 : List Cond := u_ws RX1 TX1 9
theorem nmX1 : ∀ a, a < 9 → ∀ b, b < 9 → a ≠ b → (TX1 a).2.1 ≠ (TX1 b).2.1 := by decide +kernel
theorem tyX1_ok : ∀ k, k < 9 → parseFieldDescriptor (TX1 k).2.2.1 = some (tyX1 k) := by decide +kernel
abbrev cX1_init : ByteArray := prog_3_method_1_code
def yX1_init : MethodName := ⟨RX1, "<init>", "()V"⟩
def RX2 : String := "Ferrytax$Traveller"
def TX2 : u_T := fun k => match k with
  | 0 => ("Ferrytax$Traveller", "refunds", "I", false)
  | 1 => ("Ferrytax$Traveller", "fines", "I", false)
  | 2 => ("Ferrytax$Traveller", "missed", "I", false)
  | 3 => ("Ferrytax$Traveller", "timesLeft", "I", false)
  | _ => ("Ferrytax$Traveller", "left", "Z", false)
def tyX2 : Nat → FieldType := fun k => match k with
  | 0 => .int
  | 1 => .int
  | 2 => .int
  | 3 => .int
  | _ => .boolean
abbrev wsX20 : List Cond := u_ws RX2 TX2 5
theorem nmX2 : ∀ a, a < 5 → ∀ b, b < 5 → a ≠ b → (TX2 a).2.1 ≠ (TX2 b).2.1 := by decide +kernel
theorem tyX2_ok : ∀ k, k < 5 → parseFieldDescriptor (TX2 k).2.2.1 = some (tyX2 k) := by decide +kernel
abbrev cX2_init : ByteArray := prog_4_method_1_code
def yX2_init : MethodName := ⟨RX2, "<init>", "()V"⟩
def RX3 : String := "Ferrytax"
def TX3 : u_T := fun k => match k with
  | 0 => ("Ferrytax", "rates", "[I", true)
  | 1 => ("Ferrytax", "receipts", "[LFerrytax$Receipt;", true)
  | 2 => ("Ferrytax", "ferries", "[LFerrytax$Ferry;", true)
  | 3 => ("Ferrytax", "travellers", "[LFerrytax$Traveller;", true)
  | 4 => ("Ferrytax", "receiptCount", "I", false)
  | 5 => ("Ferrytax", "ferryCount", "I", false)
  | _ => ("Ferrytax", "now", "I", false)
def tyX3 : Nat → FieldType := fun k => match k with
  | 0 => .array .int
  | 1 => .array (.object "Ferrytax$Receipt")
  | 2 => .array (.object "Ferrytax$Ferry")
  | 3 => .array (.object "Ferrytax$Traveller")
  | 4 => .int
  | 5 => .int
  | _ => .int
abbrev wsX30 : List Cond := u_ws RX3 TX3 7
theorem nmX3 : ∀ a, a < 7 → ∀ b, b < 7 → a ≠ b → (TX3 a).2.1 ≠ (TX3 b).2.1 := by decide +kernel
theorem tyX3_ok : ∀ k, k < 7 → parseFieldDescriptor (TX3 k).2.2.1 = some (tyX3 k) := by decide +kernel
abbrev cX3_init : ByteArray := prog_1_method_1_code
def yX3_init : MethodName := ⟨RX3, "<init>", "()V"⟩
abbrev cX3_rate : ByteArray := prog_1_method_2_code
def yX3_rate : MethodName := ⟨RX3, "rate", "(II)I"⟩
abbrev cX3_buy : ByteArray := prog_1_method_3_code
def yX3_buy : MethodName := ⟨RX3, "buy", "(IIII)I"⟩
abbrev cX3_giveBack : ByteArray := prog_1_method_4_code
def yX3_giveBack : MethodName := ⟨RX3, "giveBack", "(I)I"⟩
abbrev cX3_ferry : ByteArray := prog_1_method_5_code
def yX3_ferry : MethodName := ⟨RX3, "ferry", "(II)I"⟩
abbrev cX3_seat : ByteArray := prog_1_method_6_code
def yX3_seat : MethodName := ⟨RX3, "seat", "(II)I"⟩
abbrev cX3_leaveSeat : ByteArray := prog_1_method_7_code
def yX3_leaveSeat : MethodName := ⟨RX3, "leaveSeat", "(II)I"⟩
abbrev cX3_aboard : ByteArray := prog_1_method_8_code
def yX3_aboard : MethodName := ⟨RX3, "aboard", "(II)I"⟩
abbrev cX3_stamp : ByteArray := prog_1_method_9_code
def yX3_stamp : MethodName := ⟨RX3, "stamp", "(II)I"⟩
abbrev cX3_check : ByteArray := prog_1_method_10_code
def yX3_check : MethodName := ⟨RX3, "check", "(IZ)I"⟩
abbrev cX3_comeBack : ByteArray := prog_1_method_11_code
def yX3_comeBack : MethodName := ⟨RX3, "comeBack", "(I)I"⟩
abbrev cX3_pass : ByteArray := prog_1_method_12_code
def yX3_pass : MethodName := ⟨RX3, "pass", "(I)I"⟩
abbrev cX3_ofReceipt : ByteArray := prog_1_method_13_code
def yX3_ofReceipt : MethodName := ⟨RX3, "ofReceipt", "(II)I"⟩
abbrev cX3_code : ByteArray := prog_1_method_14_code
def yX3_code : MethodName := ⟨RX3, "code", "(II)C"⟩
abbrev cX3_ofTraveller : ByteArray := prog_1_method_15_code
def yX3_ofTraveller : MethodName := ⟨RX3, "ofTraveller", "(II)I"⟩
abbrev cX3_refundsAnew : ByteArray := prog_1_method_16_code
def yX3_refundsAnew : MethodName := ⟨RX3, "refundsAnew", "(I)I"⟩
abbrev cX3_debt : ByteArray := prog_1_method_17_code
def yX3_debt : MethodName := ⟨RX3, "debt", "(I)I"⟩
abbrev cX3_requireShop : ByteArray := prog_1_method_18_code
def yX3_requireShop : MethodName := ⟨RX3, "requireShop", "(I)V"⟩
abbrev cX3_requireKind : ByteArray := prog_1_method_19_code
def yX3_requireKind : MethodName := ⟨RX3, "requireKind", "(I)V"⟩
abbrev cX3_requireTraveller : ByteArray := prog_1_method_20_code
def yX3_requireTraveller : MethodName := ⟨RX3, "requireTraveller", "(I)V"⟩
abbrev cX3_travellerNumbered : ByteArray := prog_1_method_21_code
def yX3_travellerNumbered : MethodName := ⟨RX3, "travellerNumbered", "(I)LFerrytax$Traveller;"⟩
abbrev cX3_receiptNumbered : ByteArray := prog_1_method_22_code
def yX3_receiptNumbered : MethodName := ⟨RX3, "receiptNumbered", "(I)LFerrytax$Receipt;"⟩
abbrev cX3_ferryNumbered : ByteArray := prog_1_method_23_code
def yX3_ferryNumbered : MethodName := ⟨RX3, "ferryNumbered", "(I)LFerrytax$Ferry;"⟩
abbrev cX3_requireOnIsland : ByteArray := prog_1_method_24_code
def yX3_requireOnIsland : MethodName := ⟨RX3, "requireOnIsland", "(LFerrytax$Traveller;)V"⟩
abbrev cX3_requireOpen : ByteArray := prog_1_method_25_code
def yX3_requireOpen : MethodName := ⟨RX3, "requireOpen", "(LFerrytax$Receipt;)V"⟩
abbrev cX3_requireNotSailed : ByteArray := prog_1_method_26_code
def yX3_requireNotSailed : MethodName := ⟨RX3, "requireNotSailed", "(LFerrytax$Ferry;)V"⟩
abbrev cX3_requireSeat : ByteArray := prog_1_method_27_code
def yX3_requireSeat : MethodName := ⟨RX3, "requireSeat", "(LFerrytax$Ferry;I)V"⟩
abbrev cX3_requireWithin : ByteArray := prog_1_method_28_code
def yX3_requireWithin : MethodName := ⟨RX3, "requireWithin", "(LFerrytax$Ferry;I)V"⟩
abbrev cX3_placesWith : ByteArray := prog_1_method_29_code
def yX3_placesWith : MethodName := ⟨RX3, "placesWith", "(LFerrytax$Ferry;I)I"⟩
abbrev cX3_seatsLeft : ByteArray := prog_1_method_30_code
def yX3_seatsLeft : MethodName := ⟨RX3, "seatsLeft", "(LFerrytax$Ferry;)I"⟩
abbrev cX3_isAboardSomewhere : ByteArray := prog_1_method_31_code
def yX3_isAboardSomewhere : MethodName := ⟨RX3, "isAboardSomewhere", "(I)Z"⟩
abbrev cX3_isStampedFor : ByteArray := prog_1_method_32_code
def yX3_isStampedFor : MethodName := ⟨RX3, "isStampedFor", "(LFerrytax$Receipt;II)Z"⟩
abbrev cX3_takeStampOff : ByteArray := prog_1_method_33_code
def yX3_takeStampOff : MethodName := ⟨RX3, "takeStampOff", "(LFerrytax$Receipt;I)V"⟩
abbrev cX3_reopenStamped : ByteArray := prog_1_method_34_code
def yX3_reopenStamped : MethodName := ⟨RX3, "reopenStamped", "(II)I"⟩
abbrev cX3_sailAllOfNow : ByteArray := prog_1_method_35_code
def yX3_sailAllOfNow : MethodName := ⟨RX3, "sailAllOfNow", "()V"⟩
abbrev cX3_sail : ByteArray := prog_1_method_36_code
def yX3_sail : MethodName := ⟨RX3, "sail", "(I)V"⟩
abbrev cX3_payStamped : ByteArray := prog_1_method_37_code
def yX3_payStamped : MethodName := ⟨RX3, "payStamped", "(II)V"⟩
abbrev cX3_wasteStamped : ByteArray := prog_1_method_38_code
def yX3_wasteStamped : MethodName := ⟨RX3, "wasteStamped", "(II)V"⟩
abbrev cX3_refundOfTax : ByteArray := prog_1_method_39_code
def yX3_refundOfTax : MethodName := ⟨RX3, "refundOfTax", "(I)I"⟩
abbrev cX3_refundsOfSailing : ByteArray := prog_1_method_40_code
def yX3_refundsOfSailing : MethodName := ⟨RX3, "refundsOfSailing", "(II)I"⟩
abbrev cX3_appendBackwards : ByteArray := prog_1_method_41_code
def yX3_appendBackwards : MethodName := ⟨RX3, "appendBackwards", "(Ljava/lang/StringBuilder;I)V"⟩
def RX4 : String := "FerrytaxModel"
def TX4 : u_T := fun k => match k with
  | 0 => ("FerrytaxModel", "rate", "[I", true)
  | 1 => ("FerrytaxModel", "rs", "[I", true)
  | 2 => ("FerrytaxModel", "rt", "[I", true)
  | 3 => ("FerrytaxModel", "rp", "[I", true)
  | 4 => ("FerrytaxModel", "rx", "[I", true)
  | 5 => ("FerrytaxModel", "rh", "[I", true)
  | 6 => ("FerrytaxModel", "rk", "[I", true)
  | 7 => ("FerrytaxModel", "rf", "[I", true)
  | 8 => ("FerrytaxModel", "rr", "[I", true)
  | 9 => ("FerrytaxModel", "rn", "[I", true)
  | 10 => ("FerrytaxModel", "receipts", "I", false)
  | 11 => ("FerrytaxModel", "fh", "[I", true)
  | 12 => ("FerrytaxModel", "fs", "[I", true)
  | 13 => ("FerrytaxModel", "fw", "[I", true)
  | 14 => ("FerrytaxModel", "fg", "[I", true)
  | 15 => ("FerrytaxModel", "ferries", "I", false)
  | 16 => ("FerrytaxModel", "ab", "[I", true)
  | 17 => ("FerrytaxModel", "gone", "[I", true)
  | 18 => ("FerrytaxModel", "often", "[I", true)
  | 19 => ("FerrytaxModel", "missed", "[I", true)
  | 20 => ("FerrytaxModel", "fine", "[I", true)
  | 21 => ("FerrytaxModel", "refunds", "[I", true)
  | 22 => ("FerrytaxModel", "given", "[I", true)
  | 23 => ("FerrytaxModel", "hour", "I", false)
  | _ => ("FerrytaxModel", "thrown", "I", false)
def tyX4 : Nat → FieldType := fun k => match k with
  | 0 => .array .int
  | 1 => .array .int
  | 2 => .array .int
  | 3 => .array .int
  | 4 => .array .int
  | 5 => .array .int
  | 6 => .array .int
  | 7 => .array .int
  | 8 => .array .int
  | 9 => .array .int
  | 10 => .int
  | 11 => .array .int
  | 12 => .array .int
  | 13 => .array .int
  | 14 => .array .int
  | 15 => .int
  | 16 => .array .int
  | 17 => .array .int
  | 18 => .array .int
  | 19 => .array .int
  | 20 => .array .int
  | 21 => .array .int
  | 22 => .array .int
  | 23 => .int
  | _ => .int
abbrev wsX40 : List Cond := u_ws RX4 TX4 25
theorem nmX4 : ∀ a, a < 25 → ∀ b, b < 25 → a ≠ b → (TX4 a).2.1 ≠ (TX4 b).2.1 := by decide +kernel
theorem tyX4_ok : ∀ k, k < 25 → parseFieldDescriptor (TX4 k).2.2.1 = some (tyX4 k) := by decide +kernel
abbrev cX4_init : ByteArray := prog_6_method_1_code
def yX4_init : MethodName := ⟨RX4, "<init>", "()V"⟩
abbrev cX4_thrown : ByteArray := prog_6_method_2_code
def yX4_thrown : MethodName := ⟨RX4, "thrown", "()I"⟩
abbrev cX4_holds : ByteArray := prog_6_method_3_code
def yX4_holds : MethodName := ⟨RX4, "holds", "(I)Z"⟩
abbrev cX4_in : ByteArray := prog_6_method_4_code
def yX4_in : MethodName := ⟨RX4, "in", "(III)Z"⟩
abbrev cX4_isReceipt : ByteArray := prog_6_method_5_code
def yX4_isReceipt : MethodName := ⟨RX4, "isReceipt", "(I)Z"⟩
abbrev cX4_isFerry : ByteArray := prog_6_method_6_code
def yX4_isFerry : MethodName := ⟨RX4, "isFerry", "(I)Z"⟩
abbrev cX4_hasSeat : ByteArray := prog_6_method_7_code
def yX4_hasSeat : MethodName := ⟨RX4, "hasSeat", "(II)Z"⟩
abbrev cX4_rate : ByteArray := prog_6_method_8_code
def yX4_rate : MethodName := ⟨RX4, "rate", "(II)I"⟩
abbrev cX4_buy : ByteArray := prog_6_method_9_code
def yX4_buy : MethodName := ⟨RX4, "buy", "(IIII)I"⟩
abbrev cX4_giveBack : ByteArray := prog_6_method_10_code
def yX4_giveBack : MethodName := ⟨RX4, "giveBack", "(I)I"⟩
abbrev cX4_ferry : ByteArray := prog_6_method_11_code
def yX4_ferry : MethodName := ⟨RX4, "ferry", "(II)I"⟩
abbrev cX4_left : ByteArray := prog_6_method_12_code
def yX4_left : MethodName := ⟨RX4, "left", "(I)I"⟩
abbrev cX4_seat : ByteArray := prog_6_method_13_code
def yX4_seat : MethodName := ⟨RX4, "seat", "(II)I"⟩
abbrev cX4_leaveSeat : ByteArray := prog_6_method_14_code
def yX4_leaveSeat : MethodName := ⟨RX4, "leaveSeat", "(II)I"⟩
abbrev cX4_aboard : ByteArray := prog_6_method_15_code
def yX4_aboard : MethodName := ⟨RX4, "aboard", "(II)I"⟩
abbrev cX4_stamp : ByteArray := prog_6_method_16_code
def yX4_stamp : MethodName := ⟨RX4, "stamp", "(II)I"⟩
abbrev cX4_check : ByteArray := prog_6_method_17_code
def yX4_check : MethodName := ⟨RX4, "check", "(IZ)I"⟩
abbrev cX4_comeBack : ByteArray := prog_6_method_18_code
def yX4_comeBack : MethodName := ⟨RX4, "comeBack", "(I)I"⟩
abbrev cX4_pays : ByteArray := prog_6_method_19_code
def yX4_pays : MethodName := ⟨RX4, "pays", "(I)V"⟩
abbrev cX4_fails : ByteArray := prog_6_method_20_code
def yX4_fails : MethodName := ⟨RX4, "fails", "(I)V"⟩
abbrev cX4_sails : ByteArray := prog_6_method_21_code
def yX4_sails : MethodName := ⟨RX4, "sails", "(I)V"⟩
abbrev cX4_pass : ByteArray := prog_6_method_22_code
def yX4_pass : MethodName := ⟨RX4, "pass", "(I)I"⟩
abbrev cX4_ofReceipt : ByteArray := prog_6_method_23_code
def yX4_ofReceipt : MethodName := ⟨RX4, "ofReceipt", "(II)I"⟩
abbrev cX4_digits : ByteArray := prog_6_method_24_code
def yX4_digits : MethodName := ⟨RX4, "digits", "(I)I"⟩
abbrev cX4_digit : ByteArray := prog_6_method_25_code
def yX4_digit : MethodName := ⟨RX4, "digit", "(II)C"⟩
abbrev cX4_code : ByteArray := prog_6_method_26_code
def yX4_code : MethodName := ⟨RX4, "code", "(II)C"⟩
abbrev cX4_ofTraveller : ByteArray := prog_6_method_27_code
def yX4_ofTraveller : MethodName := ⟨RX4, "ofTraveller", "(II)I"⟩
abbrev cX4_refundsAnew : ByteArray := prog_6_method_28_code
def yX4_refundsAnew : MethodName := ⟨RX4, "refundsAnew", "(I)I"⟩
abbrev cX4_debt : ByteArray := prog_6_method_29_code
def yX4_debt : MethodName := ⟨RX4, "debt", "(I)I"⟩
def RJ5 : String := "java/lang/AbstractStringBuilder"
def TJ5 : u_T := fun k => match k with
  | _ => ("", "", "", false)
def tyJ5 : Nat → FieldType := fun k => match k with
  | _ => .int
abbrev wsJ50 : List Cond := u_ws RJ5 TJ5 0
theorem nmJ5 : ∀ a, a < 0 → ∀ b, b < 0 → a ≠ b → (TJ5 a).2.1 ≠ (TJ5 b).2.1 := by decide +kernel
theorem tyJ5_ok : ∀ k, k < 0 → parseFieldDescriptor (TJ5 k).2.2.1 = some (tyJ5 k) := by decide +kernel
abbrev cJ5_init_d00df : ByteArray := prog_7_method_2_code
def yJ5_init_d00df : MethodName := ⟨RJ5, "<init>", "(I)V"⟩
abbrev cJ5_length_8abf5 : ByteArray := prog_7_method_6_code
def yJ5_length_8abf5 : MethodName := ⟨RJ5, "length", "()I"⟩
abbrev cJ5_ensureCapacityInternal_d00df : ByteArray := prog_7_method_9_code
def yJ5_ensureCapacityInternal_d00df : MethodName := ⟨RJ5, "ensureCapacityInternal", "(I)V"⟩
abbrev cJ5_newCapacity_0f7a4 : ByteArray := prog_7_method_10_code
def yJ5_newCapacity_0f7a4 : MethodName := ⟨RJ5, "newCapacity", "(I)I"⟩
abbrev cJ5_inflate_da8c8 : ByteArray := prog_7_method_11_code
def yJ5_inflate_da8c8 : MethodName := ⟨RJ5, "inflate", "()V"⟩
abbrev cJ5_charAt_5068e : ByteArray := prog_7_method_14_code
def yJ5_charAt_5068e : MethodName := ⟨RJ5, "charAt", "(I)C"⟩
abbrev cJ5_append_3fe6f : ByteArray := prog_7_method_31_code
def yJ5_append_3fe6f : MethodName := ⟨RJ5, "append", "(C)Ljava/lang/AbstractStringBuilder;"⟩
abbrev cJ5_append_c97b9 : ByteArray := prog_7_method_32_code
def yJ5_append_c97b9 : MethodName := ⟨RJ5, "append", "(I)Ljava/lang/AbstractStringBuilder;"⟩
abbrev cJ5_isLatin1_aae02 : ByteArray := prog_7_method_68_code
def yJ5_isLatin1_aae02 : MethodName := ⟨RJ5, "isLatin1", "()Z"⟩
def RJx8e188 : String := "java/lang/Cloneable"
def TJx8e188 : u_T := fun k => match k with
  | _ => ("", "", "", false)
def tyJx8e188 : Nat → FieldType := fun k => match k with
  | _ => .int
abbrev wsJx8e1880 : List Cond := u_ws RJx8e188 TJx8e188 0
theorem nmJx8e188 : ∀ a, a < 0 → ∀ b, b < 0 → a ≠ b → (TJx8e188 a).2.1 ≠ (TJx8e188 b).2.1 := by decide +kernel
theorem tyJx8e188_ok : ∀ k, k < 0 → parseFieldDescriptor (TJx8e188 k).2.2.1 = some (tyJx8e188 k) := by decide +kernel
def RJ6 : String := "java/lang/Integer"
def TJ6 : u_T := fun k => match k with
  | _ => ("", "", "", false)
def tyJ6 : Nat → FieldType := fun k => match k with
  | _ => .int
abbrev wsJ60 : List Cond := u_ws RJ6 TJ6 0
theorem nmJ6 : ∀ a, a < 0 → ∀ b, b < 0 → a ≠ b → (TJ6 a).2.1 ≠ (TJ6 b).2.1 := by decide +kernel
theorem tyJ6_ok : ∀ k, k < 0 → parseFieldDescriptor (TJ6 k).2.2.1 = some (tyJ6 k) := by decide +kernel
abbrev cJ6_getChars_ba4f3 : ByteArray := prog_13_method_12_code
def yJ6_getChars_ba4f3 : MethodName := ⟨RJ6, "getChars", "(II[B)I"⟩
abbrev cJ6_stringSize_0f7a4 : ByteArray := prog_13_method_13_code
def yJ6_stringSize_0f7a4 : MethodName := ⟨RJ6, "stringSize", "(I)I"⟩
def RJ9 : String := "java/lang/Math"
def TJ9 : u_T := fun k => match k with
  | _ => ("", "", "", false)
def tyJ9 : Nat → FieldType := fun k => match k with
  | _ => .int
abbrev wsJ90 : List Cond := u_ws RJ9 TJ9 0
theorem nmJ9 : ∀ a, a < 0 → ∀ b, b < 0 → a ≠ b → (TJ9 a).2.1 ≠ (TJ9 b).2.1 := by decide +kernel
theorem tyJ9_ok : ∀ k, k < 0 → parseFieldDescriptor (TJ9 k).2.2.1 = some (tyJ9 k) := by decide +kernel
abbrev cJ9_max_7cf53 : ByteArray := prog_14_method_65_code
def yJ9_max_7cf53 : MethodName := ⟨RJ9, "max", "(II)I"⟩
abbrev cJ9_min_7cf53 : ByteArray := prog_14_method_69_code
def yJ9_min_7cf53 : MethodName := ⟨RJ9, "min", "(II)I"⟩
def RJ0 : String := "java/lang/String"
def TJ0 : u_T := fun k => match k with
  | _ => ("", "", "", false)
def tyJ0 : Nat → FieldType := fun k => match k with
  | _ => .int
abbrev wsJ00 : List Cond := u_ws RJ0 TJ0 0
theorem nmJ0 : ∀ a, a < 0 → ∀ b, b < 0 → a ≠ b → (TJ0 a).2.1 ≠ (TJ0 b).2.1 := by decide +kernel
theorem tyJ0_ok : ∀ k, k < 0 → parseFieldDescriptor (TJ0 k).2.2.1 = some (tyJ0 k) := by decide +kernel
abbrev cJ0_checkIndex_df160 : ByteArray := prog_16_method_155_code
def yJ0_checkIndex_df160 : MethodName := ⟨RJ0, "checkIndex", "(II)V"⟩
abbrev cJ0_checkBoundsOffCount_cabcc : ByteArray := prog_16_method_157_code
def yJ0_checkBoundsOffCount_cabcc : MethodName := ⟨RJ0, "checkBoundsOffCount", "(III)I"⟩
abbrev cJ0_checkBoundsBeginEnd_23922 : ByteArray := prog_16_method_158_code
def yJ0_checkBoundsBeginEnd_23922 : MethodName := ⟨RJ0, "checkBoundsBeginEnd", "(III)V"⟩
def RJ4 : String := "java/lang/StringBuilder"
def TJ4 : u_T := fun k => match k with
  | 0 => ("java/lang/AbstractStringBuilder", "value", "[B", false)
  | 1 => ("java/lang/AbstractStringBuilder", "coder", "B", false)
  | 2 => ("java/lang/AbstractStringBuilder", "maybeLatin1", "Z", false)
  | _ => ("java/lang/AbstractStringBuilder", "count", "I", false)
def tyJ4 : Nat → FieldType := fun k => match k with
  | 0 => .array .byte
  | 1 => .byte
  | 2 => .boolean
  | _ => .int
abbrev wsJ40 : List Cond := u_ws RJ4 TJ4 4
theorem nmJ4 : ∀ a, a < 4 → ∀ b, b < 4 → a ≠ b → (TJ4 a).2.1 ≠ (TJ4 b).2.1 := by decide +kernel
theorem tyJ4_ok : ∀ k, k < 4 → parseFieldDescriptor (TJ4 k).2.2.1 = some (tyJ4 k) := by decide +kernel
abbrev cJ4_init_da8c8 : ByteArray := prog_17_method_1_code
def yJ4_init_da8c8 : MethodName := ⟨RJ4, "<init>", "()V"⟩
abbrev cJ4_append_cf468 : ByteArray := prog_17_method_14_code
def yJ4_append_cf468 : MethodName := ⟨RJ4, "append", "(C)Ljava/lang/StringBuilder;"⟩
abbrev cJ4_append_bf812 : ByteArray := prog_17_method_15_code
def yJ4_append_bf812 : MethodName := ⟨RJ4, "append", "(I)Ljava/lang/StringBuilder;"⟩
abbrev cJ4_charAt_5068e : ByteArray := prog_17_method_88_code
def yJ4_charAt_5068e : MethodName := ⟨RJ4, "charAt", "(I)C"⟩
abbrev cJ4_length_8abf5 : ByteArray := prog_17_method_93_code
def yJ4_length_8abf5 : MethodName := ⟨RJ4, "length", "()I"⟩
def RJ1 : String := "java/lang/StringLatin1"
def TJ1 : u_T := fun k => match k with
  | _ => ("", "", "", false)
def tyJ1 : Nat → FieldType := fun k => match k with
  | _ => .int
abbrev wsJ10 : List Cond := u_ws RJ1 TJ1 0
theorem nmJ1 : ∀ a, a < 0 → ∀ b, b < 0 → a ≠ b → (TJ1 a).2.1 ≠ (TJ1 b).2.1 := by decide +kernel
theorem tyJ1_ok : ∀ k, k < 0 → parseFieldDescriptor (TJ1 k).2.2.1 = some (tyJ1 k) := by decide +kernel
abbrev cJ1_canEncode_fc78d : ByteArray := prog_18_method_3_code
def yJ1_canEncode_fc78d : MethodName := ⟨RJ1, "canEncode", "(C)Z"⟩
abbrev cJ1_inflate_0e8fd : ByteArray := prog_18_method_50_code
def yJ1_inflate_0e8fd : MethodName := ⟨RJ1, "inflate", "([BI[BII)V"⟩
def RJ2 : String := "java/lang/StringUTF16"
def TJ2 : u_T := fun k => match k with
  | _ => ("", "", "", false)
def tyJ2 : Nat → FieldType := fun k => match k with
  | _ => .int
abbrev wsJ20 : List Cond := u_ws RJ2 TJ2 0
theorem nmJ2 : ∀ a, a < 0 → ∀ b, b < 0 → a ≠ b → (TJ2 a).2.1 ≠ (TJ2 b).2.1 := by decide +kernel
theorem tyJ2_ok : ∀ k, k < 0 → parseFieldDescriptor (TJ2 k).2.2.1 = some (tyJ2 k) := by decide +kernel
abbrev cJ2_newBytesFor_77867 : ByteArray := prog_19_method_2_code
def yJ2_newBytesFor_77867 : MethodName := ⟨RJ2, "newBytesFor", "(I)[B"⟩
abbrev cJ2_newBytesLength_0f7a4 : ByteArray := prog_19_method_3_code
def yJ2_newBytesLength_0f7a4 : MethodName := ⟨RJ2, "newBytesLength", "(I)I"⟩
abbrev cJ2_putChar_b72d1 : ByteArray := prog_19_method_4_code
def yJ2_putChar_b72d1 : MethodName := ⟨RJ2, "putChar", "([BII)V"⟩
abbrev cJ2_getChar_3b067 : ByteArray := prog_19_method_5_code
def yJ2_getChar_3b067 : MethodName := ⟨RJ2, "getChar", "([BI)C"⟩
abbrev cJ2_length_9d52b : ByteArray := prog_19_method_6_code
def yJ2_length_9d52b : MethodName := ⟨RJ2, "length", "([B)I"⟩
abbrev cJ2_putCharSB_b72d1 : ByteArray := prog_19_method_71_code
def yJ2_putCharSB_b72d1 : MethodName := ⟨RJ2, "putCharSB", "([BII)V"⟩
abbrev cJ2_getChars_46870 : ByteArray := prog_19_method_77_code
def yJ2_getChars_46870 : MethodName := ⟨RJ2, "getChars", "(III[B)I"⟩
abbrev cJ2_inflate_0e8fd : ByteArray := prog_19_method_86_code
def yJ2_inflate_0e8fd : MethodName := ⟨RJ2, "inflate", "([BI[BII)V"⟩
abbrev cJ2_getChars_ba4f3 : ByteArray := prog_19_method_89_code
def yJ2_getChars_ba4f3 : MethodName := ⟨RJ2, "getChars", "(II[B)I"⟩
abbrev cJ2_checkIndex_2214a : ByteArray := prog_19_method_91_code
def yJ2_checkIndex_2214a : MethodName := ⟨RJ2, "checkIndex", "(I[B)V"⟩
abbrev cJ2_checkBoundsBeginEnd_d044e : ByteArray := prog_19_method_93_code
def yJ2_checkBoundsBeginEnd_d044e : MethodName := ⟨RJ2, "checkBoundsBeginEnd", "(II[B)V"⟩
abbrev cJ2_checkBoundsOffCount_d044e : ByteArray := prog_19_method_94_code
def yJ2_checkBoundsOffCount_d044e : MethodName := ⟨RJ2, "checkBoundsOffCount", "(II[B)V"⟩
def RJ10 : String := "java/lang/System"
def TJ10 : u_T := fun k => match k with
  | _ => ("", "", "", false)
def tyJ10 : Nat → FieldType := fun k => match k with
  | _ => .int
abbrev wsJ100 : List Cond := u_ws RJ10 TJ10 0
theorem nmJ10 : ∀ a, a < 0 → ∀ b, b < 0 → a ≠ b → (TJ10 a).2.1 ≠ (TJ10 b).2.1 := by decide +kernel
theorem tyJ10_ok : ∀ k, k < 0 → parseFieldDescriptor (TJ10 k).2.2.1 = some (tyJ10 k) := by decide +kernel
def RJ7 : String := "java/util/Arrays"
def TJ7 : u_T := fun k => match k with
  | _ => ("", "", "", false)
def tyJ7 : Nat → FieldType := fun k => match k with
  | _ => .int
abbrev wsJ70 : List Cond := u_ws RJ7 TJ7 0
theorem nmJ7 : ∀ a, a < 0 → ∀ b, b < 0 → a ≠ b → (TJ7 a).2.1 ≠ (TJ7 b).2.1 := by decide +kernel
theorem tyJ7_ok : ∀ k, k < 0 → parseFieldDescriptor (TJ7 k).2.2.1 = some (tyJ7 k) := by decide +kernel
abbrev cJ7_copyOf_9075b : ByteArray := prog_22_method_121_code
def yJ7_copyOf_9075b : MethodName := ⟨RJ7, "copyOf", "([BI)[B"⟩
def RJ8 : String := "jdk/internal/util/ArraysSupport"
def TJ8 : u_T := fun k => match k with
  | _ => ("", "", "", false)
def tyJ8 : Nat → FieldType := fun k => match k with
  | _ => .int
abbrev wsJ80 : List Cond := u_ws RJ8 TJ8 0
theorem nmJ8 : ∀ a, a < 0 → ∀ b, b < 0 → a ≠ b → (TJ8 a).2.1 ≠ (TJ8 b).2.1 := by decide +kernel
theorem tyJ8_ok : ∀ k, k < 0 → parseFieldDescriptor (TJ8 k).2.2.1 = some (tyJ8 k) := by decide +kernel
abbrev cJ8_newLength_cabcc : ByteArray := prog_23_method_27_code
def yJ8_newLength_cabcc : MethodName := ⟨RJ8, "newLength", "(III)I"⟩
abbrev cJ8_hugeLength_7cf53 : ByteArray := prog_23_method_28_code
def yJ8_hugeLength_7cf53 : MethodName := ⟨RJ8, "hugeLength", "(II)I"⟩
def RJ3 : String := "jdk/internal/util/Preconditions"
def TJ3 : u_T := fun k => match k with
  | _ => ("", "", "", false)
def tyJ3 : Nat → FieldType := fun k => match k with
  | _ => .int
abbrev wsJ30 : List Cond := u_ws RJ3 TJ3 0
theorem nmJ3 : ∀ a, a < 0 → ∀ b, b < 0 → a ≠ b → (TJ3 a).2.1 ≠ (TJ3 b).2.1 := by decide +kernel
theorem tyJ3_ok : ∀ k, k < 0 → parseFieldDescriptor (TJ3 k).2.2.1 = some (tyJ3 k) := by decide +kernel
abbrev cJ3_checkIndex_8e157 : ByteArray := prog_24_method_11_code
def yJ3_checkIndex_8e157 : MethodName := ⟨RJ3, "checkIndex", "(IILjava/util/function/BiFunction;)I"⟩
abbrev cJ3_checkFromToIndex_8c36e : ByteArray := prog_24_method_12_code
def yJ3_checkFromToIndex_8c36e : MethodName := ⟨RJ3, "checkFromToIndex", "(IIILjava/util/function/BiFunction;)I"⟩
abbrev cJ3_checkFromIndexSize_8c36e : ByteArray := prog_24_method_13_code
def yJ3_checkFromIndexSize_8c36e : MethodName := ⟨RJ3, "checkFromIndexSize", "(IIILjava/util/function/BiFunction;)I"⟩
def RL : String := "FerrytaxLaw"
abbrev cL_rate : ByteArray := method_3_code
def yL_rate : MethodName := ⟨RL, "rate", "(LFerrytax;II[J)I"⟩
abbrev cL_buy : ByteArray := method_4_code
def yL_buy : MethodName := ⟨RL, "buy", "(LFerrytax;IIII[J)I"⟩
abbrev cL_giveBack : ByteArray := method_5_code
def yL_giveBack : MethodName := ⟨RL, "giveBack", "(LFerrytax;I[J)I"⟩
abbrev cL_ferry : ByteArray := method_6_code
def yL_ferry : MethodName := ⟨RL, "ferry", "(LFerrytax;II[J)I"⟩
abbrev cL_seat : ByteArray := method_7_code
def yL_seat : MethodName := ⟨RL, "seat", "(LFerrytax;II[J)I"⟩
abbrev cL_leaveSeat : ByteArray := method_8_code
def yL_leaveSeat : MethodName := ⟨RL, "leaveSeat", "(LFerrytax;II[J)I"⟩
abbrev cL_aboard : ByteArray := method_9_code
def yL_aboard : MethodName := ⟨RL, "aboard", "(LFerrytax;II[J)I"⟩
abbrev cL_stamp : ByteArray := method_10_code
def yL_stamp : MethodName := ⟨RL, "stamp", "(LFerrytax;II[J)I"⟩
abbrev cL_check : ByteArray := method_11_code
def yL_check : MethodName := ⟨RL, "check", "(LFerrytax;IZ[J)I"⟩
abbrev cL_comeBack : ByteArray := method_12_code
def yL_comeBack : MethodName := ⟨RL, "comeBack", "(LFerrytax;I[J)I"⟩
abbrev cL_pass : ByteArray := method_13_code
def yL_pass : MethodName := ⟨RL, "pass", "(LFerrytax;I[J)I"⟩
abbrev cL_ofReceipt : ByteArray := method_14_code
def yL_ofReceipt : MethodName := ⟨RL, "ofReceipt", "(LFerrytax;II[J)I"⟩
abbrev cL_code : ByteArray := method_15_code
def yL_code : MethodName := ⟨RL, "code", "(LFerrytax;II[J)I"⟩
abbrev cL_ofTraveller : ByteArray := method_16_code
def yL_ofTraveller : MethodName := ⟨RL, "ofTraveller", "(LFerrytax;II[J)I"⟩
abbrev cL_refundsAnew : ByteArray := method_17_code
def yL_refundsAnew : MethodName := ⟨RL, "refundsAnew", "(LFerrytax;I[J)I"⟩
abbrev cL_debt : ByteArray := method_18_code
def yL_debt : MethodName := ⟨RL, "debt", "(LFerrytax;I[J)I"⟩
abbrev cL_law : ByteArray := code
def yL_law : MethodName := ⟨RL, "law", "([I)Z"⟩
abbrev vwCl : List vw_C := [(RJ4, TJ4, 4), (RX0, TX0, 3), (RX1, TX1, 9), (RX2, TX2, 5), (RX3, TX3, 7), (RX4, TX4, 25)]
