-- ===== PART A: goes FIRST, ahead of the names: the tables' words, and 'selects' of the private methods out of them =====
/-- a private method of a class that the tables say can be made, by its rows of tables_1 -/
def lw_okq (q : MethodName × Nat) : Prop := (q.1.cls ≠ "java/lang/invoke/MethodHandle" ∧ q.1.cls ≠ "java/lang/invoke/VarHandle") ∧ Cond.instantiable q.1.cls q.2 ∈ tables_1 ∧ Cond.privateMethod q.1 ∈ tables_1 ∧ Cond.instanceMethod q.1 ∈ tables_1
theorem lw_p0 : lw_okq (⟨"GiftPurposes$Books", "closedPurposes", "()I"⟩, 5) := ⟨⟨by decide +kernel, by decide +kernel⟩, List.mem_of_getElem? (i := 17) (by decide +kernel), List.mem_of_getElem? (i := 179) (by decide +kernel), List.mem_of_getElem? (i := 180) (by decide +kernel)⟩
theorem lw_p1 : lw_okq (⟨"GiftPurposes$Books", "bookGift", "(IIII)I"⟩, 5) := ⟨⟨by decide +kernel, by decide +kernel⟩, List.mem_of_getElem? (i := 17) (by decide +kernel), List.mem_of_getElem? (i := 249) (by decide +kernel), List.mem_of_getElem? (i := 250) (by decide +kernel)⟩
theorem lw_p2 : lw_okq (⟨"GiftPurposes$Books", "isRunning", "(I)Z"⟩, 5) := ⟨⟨by decide +kernel, by decide +kernel⟩, List.mem_of_getElem? (i := 17) (by decide +kernel), List.mem_of_getElem? (i := 279) (by decide +kernel), List.mem_of_getElem? (i := 280) (by decide +kernel)⟩
theorem lw_p3 : lw_okq (⟨"GiftPurposes$Books", "haltPledge", "(I)V"⟩, 5) := ⟨⟨by decide +kernel, by decide +kernel⟩, List.mem_of_getElem? (i := 17) (by decide +kernel), List.mem_of_getElem? (i := 291) (by decide +kernel), List.mem_of_getElem? (i := 292) (by decide +kernel)⟩
theorem lw_p4 : lw_okq (⟨"GiftPurposes$Books", "isOf", "(II)Z"⟩, 5) := ⟨⟨by decide +kernel, by decide +kernel⟩, List.mem_of_getElem? (i := 17) (by decide +kernel), List.mem_of_getElem? (i := 312) (by decide +kernel), List.mem_of_getElem? (i := 313) (by decide +kernel)⟩
theorem lw_p5 : lw_okq (⟨"GiftPurposes$Books", "canBeClaimed", "(I)Z"⟩, 5) := ⟨⟨by decide +kernel, by decide +kernel⟩, List.mem_of_getElem? (i := 17) (by decide +kernel), List.mem_of_getElem? (i := 316) (by decide +kernel), List.mem_of_getElem? (i := 317) (by decide +kernel)⟩
theorem lw_p6 : lw_okq (⟨"GiftPurposes$Books", "isClaimed", "(I)Z"⟩, 5) := ⟨⟨by decide +kernel, by decide +kernel⟩, List.mem_of_getElem? (i := 17) (by decide +kernel), List.mem_of_getElem? (i := 320) (by decide +kernel), List.mem_of_getElem? (i := 321) (by decide +kernel)⟩
theorem lw_p7 : lw_okq (⟨"GiftPurposes$Books", "isRefunded", "(I)Z"⟩, 5) := ⟨⟨by decide +kernel, by decide +kernel⟩, List.mem_of_getElem? (i := 17) (by decide +kernel), List.mem_of_getElem? (i := 324) (by decide +kernel), List.mem_of_getElem? (i := 325) (by decide +kernel)⟩
theorem lw_p8 : lw_okq (⟨"GiftPurposes$Books", "claimedInYear", "(II)I"⟩, 5) := ⟨⟨by decide +kernel, by decide +kernel⟩, List.mem_of_getElem? (i := 17) (by decide +kernel), List.mem_of_getElem? (i := 328) (by decide +kernel), List.mem_of_getElem? (i := 329) (by decide +kernel)⟩
theorem lw_p9 : lw_okq (⟨"GiftPurposes$Books", "homeOfGift", "(I)I"⟩, 5) := ⟨⟨by decide +kernel, by decide +kernel⟩, List.mem_of_getElem? (i := 17) (by decide +kernel), List.mem_of_getElem? (i := 332) (by decide +kernel), List.mem_of_getElem? (i := 333) (by decide +kernel)⟩
theorem lw_p10 : lw_okq (⟨"GiftPurposes$Books", "taxOf", "(I)I"⟩, 5) := ⟨⟨by decide +kernel, by decide +kernel⟩, List.mem_of_getElem? (i := 17) (by decide +kernel), List.mem_of_getElem? (i := 336) (by decide +kernel), List.mem_of_getElem? (i := 337) (by decide +kernel)⟩
theorem lw_p11 : lw_okq (⟨"GiftPurposes$Books", "areTwoPurposes", "(II)Z"⟩, 5) := ⟨⟨by decide +kernel, by decide +kernel⟩, List.mem_of_getElem? (i := 17) (by decide +kernel), List.mem_of_getElem? (i := 363) (by decide +kernel), List.mem_of_getElem? (i := 364) (by decide +kernel)⟩
theorem lw_p12 : lw_okq (⟨"GiftPurposes$Books", "areMergeable", "(II)Z"⟩, 5) := ⟨⟨by decide +kernel, by decide +kernel⟩, List.mem_of_getElem? (i := 17) (by decide +kernel), List.mem_of_getElem? (i := 367) (by decide +kernel), List.mem_of_getElem? (i := 368) (by decide +kernel)⟩
theorem lw_p13 : lw_okq (⟨"GiftPurposes$Books", "weightOfDonor", "(II)I"⟩, 5) := ⟨⟨by decide +kernel, by decide +kernel⟩, List.mem_of_getElem? (i := 17) (by decide +kernel), List.mem_of_getElem? (i := 371) (by decide +kernel), List.mem_of_getElem? (i := 372) (by decide +kernel)⟩
theorem lw_p14 : lw_okq (⟨"GiftPurposes$Books", "weightOf", "(II)I"⟩, 5) := ⟨⟨by decide +kernel, by decide +kernel⟩, List.mem_of_getElem? (i := 17) (by decide +kernel), List.mem_of_getElem? (i := 375) (by decide +kernel), List.mem_of_getElem? (i := 376) (by decide +kernel)⟩
theorem lw_p15 : lw_okq (⟨"GiftPurposes$Books", "weightOfAll", "(I)I"⟩, 5) := ⟨⟨by decide +kernel, by decide +kernel⟩, List.mem_of_getElem? (i := 17) (by decide +kernel), List.mem_of_getElem? (i := 396) (by decide +kernel), List.mem_of_getElem? (i := 397) (by decide +kernel)⟩
def lw_privs_1 : List (MethodName × Nat) := [(⟨"GiftPurposes$Books", "closedPurposes", "()I"⟩, 5), (⟨"GiftPurposes$Books", "bookGift", "(IIII)I"⟩, 5), (⟨"GiftPurposes$Books", "isRunning", "(I)Z"⟩, 5), (⟨"GiftPurposes$Books", "haltPledge", "(I)V"⟩, 5), (⟨"GiftPurposes$Books", "isOf", "(II)Z"⟩, 5), (⟨"GiftPurposes$Books", "canBeClaimed", "(I)Z"⟩, 5), (⟨"GiftPurposes$Books", "isClaimed", "(I)Z"⟩, 5), (⟨"GiftPurposes$Books", "isRefunded", "(I)Z"⟩, 5), (⟨"GiftPurposes$Books", "claimedInYear", "(II)I"⟩, 5), (⟨"GiftPurposes$Books", "homeOfGift", "(I)I"⟩, 5), (⟨"GiftPurposes$Books", "taxOf", "(I)I"⟩, 5), (⟨"GiftPurposes$Books", "areTwoPurposes", "(II)Z"⟩, 5), (⟨"GiftPurposes$Books", "areMergeable", "(II)Z"⟩, 5), (⟨"GiftPurposes$Books", "weightOfDonor", "(II)I"⟩, 5), (⟨"GiftPurposes$Books", "weightOf", "(II)I"⟩, 5), (⟨"GiftPurposes$Books", "weightOfAll", "(I)I"⟩, 5)]
theorem lw_r1 : ∀ q ∈ lw_privs_1, lw_okq q := List.forall_mem_cons.mpr ⟨lw_p0, List.forall_mem_cons.mpr ⟨lw_p1, List.forall_mem_cons.mpr ⟨lw_p2, List.forall_mem_cons.mpr ⟨lw_p3, List.forall_mem_cons.mpr ⟨lw_p4, List.forall_mem_cons.mpr ⟨lw_p5, List.forall_mem_cons.mpr ⟨lw_p6, List.forall_mem_cons.mpr ⟨lw_p7, List.forall_mem_cons.mpr ⟨lw_p8, List.forall_mem_cons.mpr ⟨lw_p9, List.forall_mem_cons.mpr ⟨lw_p10, List.forall_mem_cons.mpr ⟨lw_p11, List.forall_mem_cons.mpr ⟨lw_p12, List.forall_mem_cons.mpr ⟨lw_p13, List.forall_mem_cons.mpr ⟨lw_p14, List.forall_mem_cons.mpr ⟨lw_p15, fun _ h => absurd h List.not_mem_nil⟩⟩⟩⟩⟩⟩⟩⟩⟩⟩⟩⟩⟩⟩⟩⟩
theorem lw_p16 : lw_okq (⟨"GiftPurposes$Books", "weightOfConsents", "(II)I"⟩, 5) := ⟨⟨by decide +kernel, by decide +kernel⟩, List.mem_of_getElem? (i := 17) (by decide +kernel), List.mem_of_getElem? (i := 400) (by decide +kernel), List.mem_of_getElem? (i := 401) (by decide +kernel)⟩
theorem lw_p17 : lw_okq (⟨"GiftPurposes$Books", "agreesTo", "(III)Z"⟩, 5) := ⟨⟨by decide +kernel, by decide +kernel⟩, List.mem_of_getElem? (i := 17) (by decide +kernel), List.mem_of_getElem? (i := 404) (by decide +kernel), List.mem_of_getElem? (i := 405) (by decide +kernel)⟩
theorem lw_p18 : lw_okq (⟨"GiftPurposes$Books", "handOnPledges", "(II)V"⟩, 5) := ⟨⟨by decide +kernel, by decide +kernel⟩, List.mem_of_getElem? (i := 17) (by decide +kernel), List.mem_of_getElem? (i := 408) (by decide +kernel), List.mem_of_getElem? (i := 409) (by decide +kernel)⟩
theorem lw_p19 : lw_okq (⟨"GiftPurposes$Books", "forgetConsents", "(I)V"⟩, 5) := ⟨⟨by decide +kernel, by decide +kernel⟩, List.mem_of_getElem? (i := 17) (by decide +kernel), List.mem_of_getElem? (i := 412) (by decide +kernel), List.mem_of_getElem? (i := 413) (by decide +kernel)⟩
theorem lw_p20 : lw_okq (⟨"GiftPurposes$Books", "closePurpose", "(II)V"⟩, 5) := ⟨⟨by decide +kernel, by decide +kernel⟩, List.mem_of_getElem? (i := 17) (by decide +kernel), List.mem_of_getElem? (i := 416) (by decide +kernel), List.mem_of_getElem? (i := 417) (by decide +kernel)⟩
theorem lw_p21 : lw_okq (⟨"GiftPurposes$Books", "moveFund", "(II)I"⟩, 5) := ⟨⟨by decide +kernel, by decide +kernel⟩, List.mem_of_getElem? (i := 17) (by decide +kernel), List.mem_of_getElem? (i := 420) (by decide +kernel), List.mem_of_getElem? (i := 421) (by decide +kernel)⟩
theorem lw_p22 : lw_okq (⟨"GiftPurposes$Books", "runPledge", "(I)V"⟩, 5) := ⟨⟨by decide +kernel, by decide +kernel⟩, List.mem_of_getElem? (i := 17) (by decide +kernel), List.mem_of_getElem? (i := 458) (by decide +kernel), List.mem_of_getElem? (i := 459) (by decide +kernel)⟩
theorem lw_p23 : lw_okq (⟨"GiftPurposes$Books", "amountsOf", "(II)I"⟩, 5) := ⟨⟨by decide +kernel, by decide +kernel⟩, List.mem_of_getElem? (i := 17) (by decide +kernel), List.mem_of_getElem? (i := 498) (by decide +kernel), List.mem_of_getElem? (i := 499) (by decide +kernel)⟩
theorem lw_p24 : lw_okq (⟨"GiftPurposes$Books", "runningPledgesOf", "(I)I"⟩, 5) := ⟨⟨by decide +kernel, by decide +kernel⟩, List.mem_of_getElem? (i := 17) (by decide +kernel), List.mem_of_getElem? (i := 502) (by decide +kernel), List.mem_of_getElem? (i := 503) (by decide +kernel)⟩
theorem lw_p25 : lw_okq (⟨"GiftPurposes$Books", "tellConsent", "(II)I"⟩, 5) := ⟨⟨by decide +kernel, by decide +kernel⟩, List.mem_of_getElem? (i := 17) (by decide +kernel), List.mem_of_getElem? (i := 506) (by decide +kernel), List.mem_of_getElem? (i := 507) (by decide +kernel)⟩
def lw_privs_2 : List (MethodName × Nat) := [(⟨"GiftPurposes$Books", "weightOfConsents", "(II)I"⟩, 5), (⟨"GiftPurposes$Books", "agreesTo", "(III)Z"⟩, 5), (⟨"GiftPurposes$Books", "handOnPledges", "(II)V"⟩, 5), (⟨"GiftPurposes$Books", "forgetConsents", "(I)V"⟩, 5), (⟨"GiftPurposes$Books", "closePurpose", "(II)V"⟩, 5), (⟨"GiftPurposes$Books", "moveFund", "(II)I"⟩, 5), (⟨"GiftPurposes$Books", "runPledge", "(I)V"⟩, 5), (⟨"GiftPurposes$Books", "amountsOf", "(II)I"⟩, 5), (⟨"GiftPurposes$Books", "runningPledgesOf", "(I)I"⟩, 5), (⟨"GiftPurposes$Books", "tellConsent", "(II)I"⟩, 5)]
theorem lw_r2 : ∀ q ∈ lw_privs_2, lw_okq q := List.forall_mem_cons.mpr ⟨lw_p16, List.forall_mem_cons.mpr ⟨lw_p17, List.forall_mem_cons.mpr ⟨lw_p18, List.forall_mem_cons.mpr ⟨lw_p19, List.forall_mem_cons.mpr ⟨lw_p20, List.forall_mem_cons.mpr ⟨lw_p21, List.forall_mem_cons.mpr ⟨lw_p22, List.forall_mem_cons.mpr ⟨lw_p23, List.forall_mem_cons.mpr ⟨lw_p24, List.forall_mem_cons.mpr ⟨lw_p25, fun _ h => absurd h List.not_mem_nil⟩⟩⟩⟩⟩⟩⟩⟩⟩⟩
def lw_privs : List (MethodName × Nat) := lw_privs_1 ++ (lw_privs_2)
def lw_tbl : List Cond := k2_sels lw_privs ++ tables_1
theorem lw_privs_ok : ∀ q ∈ lw_privs, lw_okq q := by
  show ∀ q ∈ lw_privs_1 ++ (lw_privs_2), lw_okq q
  exact List.forall_mem_append.mpr ⟨lw_r1, lw_r2⟩
/-! ===== BEGIN printed: names, fields, word lists, decode rows ===== -/
def RX0 : String := "GiftPurposes$Books"
def TX0 : u_T := fun k => match k with
  | 0 => ("GiftPurposes$Books", "cells", "[I", true)
  | 1 => ("GiftPurposes$Books", "purposes", "LGiftPurposes$Table;", true)
  | 2 => ("GiftPurposes$Books", "donors", "LGiftPurposes$Table;", true)
  | 3 => ("GiftPurposes$Books", "gifts", "LGiftPurposes$Table;", true)
  | _ => ("GiftPurposes$Books", "pledges", "LGiftPurposes$Table;", true)
def tyX0 : Nat → FieldType := fun k => match k with
  | 0 => .array .int
  | 1 => .object "GiftPurposes$Table"
  | 2 => .object "GiftPurposes$Table"
  | 3 => .object "GiftPurposes$Table"
  | _ => .object "GiftPurposes$Table"
abbrev wsX00 : List Cond := u_ws RX0 TX0 5
theorem nmX0 : ∀ a, a < 5 → ∀ b, b < 5 → a ≠ b → (TX0 a).2.1 ≠ (TX0 b).2.1 := by decide +kernel
theorem tyX0_ok : ∀ k, k < 5 → parseFieldDescriptor (TX0 k).2.2.1 = some (tyX0 k) := by decide +kernel
abbrev cX0_init : ByteArray := prog_2_method_1_code
def yX0_init : MethodName := ⟨RX0, "<init>", "([I)V"⟩
abbrev cX0_saveTo : ByteArray := prog_2_method_3_code
def yX0_saveTo : MethodName := ⟨RX0, "saveTo", "([I)V"⟩
abbrev cX0_addPurpose : ByteArray := prog_2_method_5_code
def yX0_addPurpose : MethodName := ⟨RX0, "addPurpose", "()I"⟩
abbrev cX0_addDonor : ByteArray := prog_2_method_6_code
def yX0_addDonor : MethodName := ⟨RX0, "addDonor", "()I"⟩
abbrev cX0_letDeclare : ByteArray := prog_2_method_7_code
def yX0_letDeclare : MethodName := ⟨RX0, "letDeclare", "(II)I"⟩
abbrev cX0_isClosed : ByteArray := prog_2_method_10_code
def yX0_isClosed : MethodName := ⟨RX0, "isClosed", "(I)Z"⟩
abbrev cX0_fundOf : ByteArray := prog_2_method_11_code
def yX0_fundOf : MethodName := ⟨RX0, "fundOf", "(I)I"⟩
abbrev cX0_addGift : ByteArray := prog_2_method_12_code
def yX0_addGift : MethodName := ⟨RX0, "addGift", "(III)I"⟩
abbrev cX0_bookGift : ByteArray := prog_2_method_13_code
def yX0_bookGift : MethodName := ⟨RX0, "bookGift", "(IIII)I"⟩
abbrev cX0_taxOf : ByteArray := prog_2_method_14_code
def yX0_taxOf : MethodName := ⟨RX0, "taxOf", "(I)I"⟩
abbrev cX0_homeOfGift : ByteArray := prog_2_method_15_code
def yX0_homeOfGift : MethodName := ⟨RX0, "homeOfGift", "(I)I"⟩
abbrev cX0_isOf : ByteArray := prog_2_method_16_code
def yX0_isOf : MethodName := ⟨RX0, "isOf", "(II)Z"⟩
abbrev cX0_isClaimed : ByteArray := prog_2_method_17_code
def yX0_isClaimed : MethodName := ⟨RX0, "isClaimed", "(I)Z"⟩
abbrev cX0_isRefunded : ByteArray := prog_2_method_18_code
def yX0_isRefunded : MethodName := ⟨RX0, "isRefunded", "(I)Z"⟩
abbrev cX0_addPledge : ByteArray := prog_2_method_19_code
def yX0_addPledge : MethodName := ⟨RX0, "addPledge", "(IIII)I"⟩
abbrev cX0_tellMiss : ByteArray := prog_2_method_20_code
def yX0_tellMiss : MethodName := ⟨RX0, "tellMiss", "(I)I"⟩
abbrev cX0_stopPledge : ByteArray := prog_2_method_21_code
def yX0_stopPledge : MethodName := ⟨RX0, "stopPledge", "(I)I"⟩
abbrev cX0_isRunning : ByteArray := prog_2_method_22_code
def yX0_isRunning : MethodName := ⟨RX0, "isRunning", "(I)Z"⟩
abbrev cX0_haltPledge : ByteArray := prog_2_method_23_code
def yX0_haltPledge : MethodName := ⟨RX0, "haltPledge", "(I)V"⟩
abbrev cX0_isSpan : ByteArray := prog_2_method_24_code
def yX0_isSpan : MethodName := ⟨RX0, "isSpan", "(I)Z"⟩
abbrev cX0_passMonths : ByteArray := prog_2_method_25_code
def yX0_passMonths : MethodName := ⟨RX0, "passMonths", "(II)I"⟩
abbrev cX0_runPledge : ByteArray := prog_2_method_26_code
def yX0_runPledge : MethodName := ⟨RX0, "runPledge", "(I)V"⟩
abbrev cX0_claimGifts : ByteArray := prog_2_method_27_code
def yX0_claimGifts : MethodName := ⟨RX0, "claimGifts", "(I)I"⟩
abbrev cX0_canBeClaimed : ByteArray := prog_2_method_28_code
def yX0_canBeClaimed : MethodName := ⟨RX0, "canBeClaimed", "(I)Z"⟩
abbrev cX0_claimedInYear : ByteArray := prog_2_method_29_code
def yX0_claimedInYear : MethodName := ⟨RX0, "claimedInYear", "(II)I"⟩
abbrev cX0_spendOn : ByteArray := prog_2_method_30_code
def yX0_spendOn : MethodName := ⟨RX0, "spendOn", "(II)I"⟩
abbrev cX0_refundGift : ByteArray := prog_2_method_31_code
def yX0_refundGift : MethodName := ⟨RX0, "refundGift", "(I)I"⟩
abbrev cX0_consentTo : ByteArray := prog_2_method_32_code
def yX0_consentTo : MethodName := ⟨RX0, "consentTo", "(III)I"⟩
abbrev cX0_mergePurpose : ByteArray := prog_2_method_33_code
def yX0_mergePurpose : MethodName := ⟨RX0, "mergePurpose", "(II)I"⟩
abbrev cX0_tellConsents : ByteArray := prog_2_method_34_code
def yX0_tellConsents : MethodName := ⟨RX0, "tellConsents", "(II)I"⟩
abbrev cX0_areTwoPurposes : ByteArray := prog_2_method_35_code
def yX0_areTwoPurposes : MethodName := ⟨RX0, "areTwoPurposes", "(II)Z"⟩
abbrev cX0_areMergeable : ByteArray := prog_2_method_36_code
def yX0_areMergeable : MethodName := ⟨RX0, "areMergeable", "(II)Z"⟩
abbrev cX0_agreesTo : ByteArray := prog_2_method_37_code
def yX0_agreesTo : MethodName := ⟨RX0, "agreesTo", "(III)Z"⟩
abbrev cX0_weightOf : ByteArray := prog_2_method_38_code
def yX0_weightOf : MethodName := ⟨RX0, "weightOf", "(II)I"⟩
abbrev cX0_weightOfDonor : ByteArray := prog_2_method_39_code
def yX0_weightOfDonor : MethodName := ⟨RX0, "weightOfDonor", "(II)I"⟩
abbrev cX0_weightOfAll : ByteArray := prog_2_method_40_code
def yX0_weightOfAll : MethodName := ⟨RX0, "weightOfAll", "(I)I"⟩
abbrev cX0_weightOfConsents : ByteArray := prog_2_method_41_code
def yX0_weightOfConsents : MethodName := ⟨RX0, "weightOfConsents", "(II)I"⟩
abbrev cX0_handOnPledges : ByteArray := prog_2_method_42_code
def yX0_handOnPledges : MethodName := ⟨RX0, "handOnPledges", "(II)V"⟩
abbrev cX0_forgetConsents : ByteArray := prog_2_method_43_code
def yX0_forgetConsents : MethodName := ⟨RX0, "forgetConsents", "(I)V"⟩
abbrev cX0_closePurpose : ByteArray := prog_2_method_44_code
def yX0_closePurpose : MethodName := ⟨RX0, "closePurpose", "(II)V"⟩
abbrev cX0_moveFund : ByteArray := prog_2_method_45_code
def yX0_moveFund : MethodName := ⟨RX0, "moveFund", "(II)I"⟩
abbrev cX0_changeSetting : ByteArray := prog_2_method_46_code
def yX0_changeSetting : MethodName := ⟨RX0, "changeSetting", "(II)I"⟩
abbrev cX0_tellPurpose : ByteArray := prog_2_method_47_code
def yX0_tellPurpose : MethodName := ⟨RX0, "tellPurpose", "(II)I"⟩
abbrev cX0_tellDonor : ByteArray := prog_2_method_48_code
def yX0_tellDonor : MethodName := ⟨RX0, "tellDonor", "(II)I"⟩
abbrev cX0_tellConsent : ByteArray := prog_2_method_49_code
def yX0_tellConsent : MethodName := ⟨RX0, "tellConsent", "(II)I"⟩
abbrev cX0_amountsOf : ByteArray := prog_2_method_50_code
def yX0_amountsOf : MethodName := ⟨RX0, "amountsOf", "(II)I"⟩
abbrev cX0_runningPledgesOf : ByteArray := prog_2_method_51_code
def yX0_runningPledgesOf : MethodName := ⟨RX0, "runningPledgesOf", "(I)I"⟩
abbrev cX0_tellGift : ByteArray := prog_2_method_52_code
def yX0_tellGift : MethodName := ⟨RX0, "tellGift", "(II)I"⟩
abbrev cX0_tellPledge : ByteArray := prog_2_method_53_code
def yX0_tellPledge : MethodName := ⟨RX0, "tellPledge", "(II)I"⟩
abbrev cX0_tellNumber : ByteArray := prog_2_method_54_code
def yX0_tellNumber : MethodName := ⟨RX0, "tellNumber", "(I)I"⟩
abbrev cX0_closedPurposes : ByteArray := prog_2_method_55_code
def yX0_closedPurposes : MethodName := ⟨RX0, "closedPurposes", "()I"⟩
def RX1 : String := "GiftPurposes$History"
def TX1 : u_T := fun k => match k with
  | 0 => ("GiftPurposes$History", "rows", "[[I", true)
  | 1 => ("GiftPurposes$History", "oldest", "I", false)
  | _ => ("GiftPurposes$History", "states", "I", false)
def tyX1 : Nat → FieldType := fun k => match k with
  | 0 => .array (.array .int)
  | 1 => .int
  | _ => .int
abbrev wsX10 : List Cond := u_ws RX1 TX1 3
theorem nmX1 : ∀ a, a < 3 → ∀ b, b < 3 → a ≠ b → (TX1 a).2.1 ≠ (TX1 b).2.1 := by decide +kernel
theorem tyX1_ok : ∀ k, k < 3 → parseFieldDescriptor (TX1 k).2.2.1 = some (tyX1 k) := by decide +kernel
abbrev cX1_init : ByteArray := prog_3_method_1_code
def yX1_init : MethodName := ⟨RX1, "<init>", "()V"⟩
abbrev cX1_size : ByteArray := prog_3_method_2_code
def yX1_size : MethodName := ⟨RX1, "size", "()I"⟩
abbrev cX1_draft : ByteArray := prog_3_method_3_code
def yX1_draft : MethodName := ⟨RX1, "draft", "(LGiftPurposes$Books;)V"⟩
abbrev cX1_keepUnlessError : ByteArray := prog_3_method_4_code
def yX1_keepUnlessError : MethodName := ⟨RX1, "keepUnlessError", "(I)I"⟩
def RX2 : String := "GiftPurposes$Script"
def TX2 : u_T := fun k => match k with
  | 0 => ("GiftPurposes$Script", "signs", "[C", true)
  | 1 => ("GiftPurposes$Script", "length", "I", false)
  | 2 => ("GiftPurposes$Script", "numbers", "[I", true)
  | 3 => ("GiftPurposes$Script", "read", "I", false)
  | 4 => ("GiftPurposes$Script", "place", "I", false)
  | 5 => ("GiftPurposes$Script", "reason", "I", false)
  | _ => ("GiftPurposes$Script", "cause", "I", false)
def tyX2 : Nat → FieldType := fun k => match k with
  | 0 => .array .char
  | 1 => .int
  | 2 => .array .int
  | 3 => .int
  | 4 => .int
  | 5 => .int
  | _ => .int
abbrev wsX20 : List Cond := u_ws RX2 TX2 7
theorem nmX2 : ∀ a, a < 7 → ∀ b, b < 7 → a ≠ b → (TX2 a).2.1 ≠ (TX2 b).2.1 := by decide +kernel
theorem tyX2_ok : ∀ k, k < 7 → parseFieldDescriptor (TX2 k).2.2.1 = some (tyX2 k) := by decide +kernel
abbrev cX2_init : ByteArray := prog_4_method_1_code
def yX2_init : MethodName := ⟨RX2, "<init>", "()V"⟩
abbrev cX2_size : ByteArray := prog_4_method_2_code
def yX2_size : MethodName := ⟨RX2, "size", "()I"⟩
def RX3 : String := "GiftPurposes$Table"
def TX3 : u_T := fun k => match k with
  | 0 => ("GiftPurposes$Table", "cells", "[I", true)
  | 1 => ("GiftPurposes$Table", "start", "I", true)
  | 2 => ("GiftPurposes$Table", "most", "I", true)
  | _ => ("GiftPurposes$Table", "width", "I", true)
def tyX3 : Nat → FieldType := fun k => match k with
  | 0 => .array .int
  | 1 => .int
  | 2 => .int
  | _ => .int
abbrev wsX30 : List Cond := u_ws RX3 TX3 4
theorem nmX3 : ∀ a, a < 4 → ∀ b, b < 4 → a ≠ b → (TX3 a).2.1 ≠ (TX3 b).2.1 := by decide +kernel
theorem tyX3_ok : ∀ k, k < 4 → parseFieldDescriptor (TX3 k).2.2.1 = some (tyX3 k) := by decide +kernel
abbrev cX3_init : ByteArray := prog_5_method_1_code
def yX3_init : MethodName := ⟨RX3, "<init>", "([IIII)V"⟩
abbrev cX3_size : ByteArray := prog_5_method_2_code
def yX3_size : MethodName := ⟨RX3, "size", "()I"⟩
abbrev cX3_has : ByteArray := prog_5_method_3_code
def yX3_has : MethodName := ⟨RX3, "has", "(I)Z"⟩
abbrev cX3_isFull : ByteArray := prog_5_method_4_code
def yX3_isFull : MethodName := ⟨RX3, "isFull", "()Z"⟩
abbrev cX3_addRow : ByteArray := prog_5_method_5_code
def yX3_addRow : MethodName := ⟨RX3, "addRow", "()I"⟩
abbrev cX3_at : ByteArray := prog_5_method_6_code
def yX3_at : MethodName := ⟨RX3, "at", "(II)I"⟩
abbrev cX3_put : ByteArray := prog_5_method_7_code
def yX3_put : MethodName := ⟨RX3, "put", "(III)V"⟩
abbrev cX3_add : ByteArray := prog_5_method_8_code
def yX3_add : MethodName := ⟨RX3, "add", "(III)V"⟩
abbrev cX3_sumOf : ByteArray := prog_5_method_9_code
def yX3_sumOf : MethodName := ⟨RX3, "sumOf", "(I)I"⟩
def RX4 : String := "GiftPurposes"
def TX4 : u_T := fun k => match k with
  | 0 => ("GiftPurposes", "books", "LGiftPurposes$Books;", true)
  | 1 => ("GiftPurposes", "trial", "LGiftPurposes$Books;", true)
  | 2 => ("GiftPurposes", "history", "LGiftPurposes$History;", true)
  | _ => ("GiftPurposes", "script", "LGiftPurposes$Script;", true)
def tyX4 : Nat → FieldType := fun k => match k with
  | 0 => .object "GiftPurposes$Books"
  | 1 => .object "GiftPurposes$Books"
  | 2 => .object "GiftPurposes$History"
  | _ => .object "GiftPurposes$Script"
abbrev wsX40 : List Cond := u_ws RX4 TX4 4
theorem nmX4 : ∀ a, a < 4 → ∀ b, b < 4 → a ≠ b → (TX4 a).2.1 ≠ (TX4 b).2.1 := by decide +kernel
theorem tyX4_ok : ∀ k, k < 4 → parseFieldDescriptor (TX4 k).2.2.1 = some (tyX4 k) := by decide +kernel
abbrev cX4_init : ByteArray := prog_1_method_1_code
def yX4_init : MethodName := ⟨RX4, "<init>", "()V"⟩
abbrev cX4_purpose : ByteArray := prog_1_method_2_code
def yX4_purpose : MethodName := ⟨RX4, "purpose", "()I"⟩
abbrev cX4_donor : ByteArray := prog_1_method_3_code
def yX4_donor : MethodName := ⟨RX4, "donor", "()I"⟩
abbrev cX4_declare : ByteArray := prog_1_method_4_code
def yX4_declare : MethodName := ⟨RX4, "declare", "(II)I"⟩
abbrev cX4_give : ByteArray := prog_1_method_5_code
def yX4_give : MethodName := ⟨RX4, "give", "(III)I"⟩
abbrev cX4_pledge : ByteArray := prog_1_method_6_code
def yX4_pledge : MethodName := ⟨RX4, "pledge", "(IIII)I"⟩
abbrev cX4_miss : ByteArray := prog_1_method_7_code
def yX4_miss : MethodName := ⟨RX4, "miss", "(I)I"⟩
abbrev cX4_stop : ByteArray := prog_1_method_8_code
def yX4_stop : MethodName := ⟨RX4, "stop", "(I)I"⟩
abbrev cX4_claim : ByteArray := prog_1_method_9_code
def yX4_claim : MethodName := ⟨RX4, "claim", "()I"⟩
abbrev cX4_spend : ByteArray := prog_1_method_10_code
def yX4_spend : MethodName := ⟨RX4, "spend", "(II)I"⟩
abbrev cX4_agree : ByteArray := prog_1_method_11_code
def yX4_agree : MethodName := ⟨RX4, "agree", "(III)I"⟩
abbrev cX4_merge : ByteArray := prog_1_method_12_code
def yX4_merge : MethodName := ⟨RX4, "merge", "(II)I"⟩
abbrev cX4_refund : ByteArray := prog_1_method_13_code
def yX4_refund : MethodName := ⟨RX4, "refund", "(I)I"⟩
abbrev cX4_pass : ByteArray := prog_1_method_14_code
def yX4_pass : MethodName := ⟨RX4, "pass", "(I)I"⟩
abbrev cX4_set : ByteArray := prog_1_method_15_code
def yX4_set : MethodName := ⟨RX4, "set", "(II)I"⟩
abbrev cX4_purposeOf : ByteArray := prog_1_method_16_code
def yX4_purposeOf : MethodName := ⟨RX4, "purposeOf", "(II)I"⟩
abbrev cX4_donorOf : ByteArray := prog_1_method_17_code
def yX4_donorOf : MethodName := ⟨RX4, "donorOf", "(II)I"⟩
abbrev cX4_giftOf : ByteArray := prog_1_method_18_code
def yX4_giftOf : MethodName := ⟨RX4, "giftOf", "(II)I"⟩
abbrev cX4_pledgeOf : ByteArray := prog_1_method_19_code
def yX4_pledgeOf : MethodName := ⟨RX4, "pledgeOf", "(II)I"⟩
abbrev cX4_count : ByteArray := prog_1_method_20_code
def yX4_count : MethodName := ⟨RX4, "count", "(I)I"⟩
abbrev cX4_consents : ByteArray := prog_1_method_22_code
def yX4_consents : MethodName := ⟨RX4, "consents", "(II)I"⟩
abbrev cX4_within : ByteArray := prog_1_method_29_code
def yX4_within : MethodName := ⟨RX4, "within", "(III)Z"⟩
def RX5 : String := "GiftPurposesModel"
def TX5 : u_T := fun k => match k with
  | _ => ("", "", "", false)
def tyX5 : Nat → FieldType := fun k => match k with
  | _ => .int
abbrev wsX50 : List Cond := u_ws RX5 TX5 0
theorem nmX5 : ∀ a, a < 0 → ∀ b, b < 0 → a ≠ b → (TX5 a).2.1 ≠ (TX5 b).2.1 := by decide +kernel
theorem tyX5_ok : ∀ k, k < 0 → parseFieldDescriptor (TX5 k).2.2.1 = some (tyX5 k) := by decide +kernel
def RJ9 : String := "java/lang/Math"
def TJ9 : u_T := fun k => match k with
  | _ => ("", "", "", false)
def tyJ9 : Nat → FieldType := fun k => match k with
  | _ => .int
abbrev wsJ90 : List Cond := u_ws RJ9 TJ9 0
theorem nmJ9 : ∀ a, a < 0 → ∀ b, b < 0 → a ≠ b → (TJ9 a).2.1 ≠ (TJ9 b).2.1 := by decide +kernel
theorem tyJ9_ok : ∀ k, k < 0 → parseFieldDescriptor (TJ9 k).2.2.1 = some (tyJ9 k) := by decide +kernel
abbrev cJ9_max_7cf53 : ByteArray := prog_8_method_65_code
def yJ9_max_7cf53 : MethodName := ⟨RJ9, "max", "(II)I"⟩
def RJ10 : String := "java/lang/System"
def TJ10 : u_T := fun k => match k with
  | _ => ("", "", "", false)
def tyJ10 : Nat → FieldType := fun k => match k with
  | _ => .int
abbrev wsJ100 : List Cond := u_ws RJ10 TJ10 0
theorem nmJ10 : ∀ a, a < 0 → ∀ b, b < 0 → a ≠ b → (TJ10 a).2.1 ≠ (TJ10 b).2.1 := by decide +kernel
theorem tyJ10_ok : ∀ k, k < 0 → parseFieldDescriptor (TJ10 k).2.2.1 = some (tyJ10 k) := by decide +kernel
def RL : String := "GiftPurposesLaw"
abbrev cL_cell : ByteArray := method_2_code
def yL_cell : MethodName := ⟨RL, "cell", "([II)I"⟩
abbrev cL_low : ByteArray := method_3_code
def yL_low : MethodName := ⟨RL, "low", "(II)I"⟩
abbrev cL_home : ByteArray := method_4_code
def yL_home : MethodName := ⟨RL, "home", "([II)I"⟩
abbrev cL_gift : ByteArray := method_5_code
def yL_gift : MethodName := ⟨RL, "gift", "([I[I[I[I[IIIII)I"⟩
abbrev cL_year : ByteArray := method_6_code
def yL_year : MethodName := ⟨RL, "year", "([I[I[I[III)I"⟩
abbrev cL_claim : ByteArray := method_7_code
def yL_claim : MethodName := ⟨RL, "claim", "([I[I[I[I[I[II[I)I"⟩
abbrev cL_weight : ByteArray := method_8_code
def yL_weight : MethodName := ⟨RL, "weight", "([I[I[I[III)I"⟩
abbrev cL_weights : ByteArray := method_9_code
def yL_weights : MethodName := ⟨RL, "weights", "([I[I[I[I[III)I"⟩
abbrev cL_month : ByteArray := method_10_code
def yL_month : MethodName := ⟨RL, "month", "([I[I[I[I[I[I)I"⟩
abbrev cL_open : ByteArray := method_11_code
def yL_open : MethodName := ⟨RL, "open", "([I[II)I"⟩
abbrev cL_comes : ByteArray := method_12_code
def yL_comes : MethodName := ⟨RL, "comes", "(LGiftPurposes;[I[I[I[I[I[I[III)Z"⟩
abbrev cL_merges : ByteArray := method_13_code
def yL_merges : MethodName := ⟨RL, "merges", "(LGiftPurposes;[I[I[I[I[I[I[III)Z"⟩
abbrev cL_acts : ByteArray := method_14_code
def yL_acts : MethodName := ⟨RL, "acts", "(LGiftPurposes;[I[I[I[I[I[I[II)Z"⟩
abbrev cL_areGifts : ByteArray := method_15_code
def yL_areGifts : MethodName := ⟨RL, "areGifts", "(LGiftPurposes;[I[I[I[I[I)Z"⟩
abbrev cL_areDonors : ByteArray := method_16_code
def yL_areDonors : MethodName := ⟨RL, "areDonors", "(LGiftPurposes;[I[I[I[I[I[I)Z"⟩
abbrev cL_isSo : ByteArray := method_17_code
def yL_isSo : MethodName := ⟨RL, "isSo", "(LGiftPurposes;[I[I[I[I[I[I[I)Z"⟩
abbrev cL_law : ByteArray := code
def yL_law : MethodName := ⟨RL, "law", "([I)Z"⟩
abbrev vwCl : List vw_C := [(RX0, TX0, 5), (RX1, TX1, 3), (RX2, TX2, 7), (RX3, TX3, 4), (RX4, TX4, 4)]
