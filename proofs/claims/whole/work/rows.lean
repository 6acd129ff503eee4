section
-- ===== PART A: goes FIRST, ahead of the names: the tables' words, and 'selects' of the private methods out of them =====
/-- a private method of a class that the tables say can be made, by its rows of tables_1 -/
def lw_okq (q : MethodName × Nat) : Prop := (q.1.cls ≠ "java/lang/invoke/MethodHandle" ∧ q.1.cls ≠ "java/lang/invoke/VarHandle") ∧ Cond.instantiable q.1.cls q.2 ∈ tables_1 ∧ Cond.privateMethod q.1 ∈ tables_1 ∧ Cond.instanceMethod q.1 ∈ tables_1
theorem lw_p0 : lw_okq (⟨"GiftPurposes$Books", "bookGift", "(IIII)I"⟩, 5) := ⟨⟨by decide +kernel, by decide +kernel⟩, List.mem_of_getElem? (i := 22) (by decide +kernel), List.mem_of_getElem? (i := 199) (by decide +kernel), List.mem_of_getElem? (i := 200) (by decide +kernel)⟩
theorem lw_p1 : lw_okq (⟨"GiftPurposes$Books", "isRunning", "(I)Z"⟩, 5) := ⟨⟨by decide +kernel, by decide +kernel⟩, List.mem_of_getElem? (i := 22) (by decide +kernel), List.mem_of_getElem? (i := 226) (by decide +kernel), List.mem_of_getElem? (i := 227) (by decide +kernel)⟩
theorem lw_p2 : lw_okq (⟨"GiftPurposes$Books", "haltPledge", "(I)V"⟩, 5) := ⟨⟨by decide +kernel, by decide +kernel⟩, List.mem_of_getElem? (i := 22) (by decide +kernel), List.mem_of_getElem? (i := 238) (by decide +kernel), List.mem_of_getElem? (i := 239) (by decide +kernel)⟩
theorem lw_p3 : lw_okq (⟨"GiftPurposes$Books", "isOf", "(II)Z"⟩, 5) := ⟨⟨by decide +kernel, by decide +kernel⟩, List.mem_of_getElem? (i := 22) (by decide +kernel), List.mem_of_getElem? (i := 254) (by decide +kernel), List.mem_of_getElem? (i := 255) (by decide +kernel)⟩
theorem lw_p4 : lw_okq (⟨"GiftPurposes$Books", "canBeClaimed", "(I)Z"⟩, 5) := ⟨⟨by decide +kernel, by decide +kernel⟩, List.mem_of_getElem? (i := 22) (by decide +kernel), List.mem_of_getElem? (i := 258) (by decide +kernel), List.mem_of_getElem? (i := 259) (by decide +kernel)⟩
theorem lw_p5 : lw_okq (⟨"GiftPurposes$Books", "isClaimed", "(I)Z"⟩, 5) := ⟨⟨by decide +kernel, by decide +kernel⟩, List.mem_of_getElem? (i := 22) (by decide +kernel), List.mem_of_getElem? (i := 262) (by decide +kernel), List.mem_of_getElem? (i := 263) (by decide +kernel)⟩
theorem lw_p6 : lw_okq (⟨"GiftPurposes$Books", "isRefunded", "(I)Z"⟩, 5) := ⟨⟨by decide +kernel, by decide +kernel⟩, List.mem_of_getElem? (i := 22) (by decide +kernel), List.mem_of_getElem? (i := 266) (by decide +kernel), List.mem_of_getElem? (i := 267) (by decide +kernel)⟩
theorem lw_p7 : lw_okq (⟨"GiftPurposes$Books", "claimedInYear", "(II)I"⟩, 5) := ⟨⟨by decide +kernel, by decide +kernel⟩, List.mem_of_getElem? (i := 22) (by decide +kernel), List.mem_of_getElem? (i := 270) (by decide +kernel), List.mem_of_getElem? (i := 271) (by decide +kernel)⟩
theorem lw_p8 : lw_okq (⟨"GiftPurposes$Books", "homeOfGift", "(I)I"⟩, 5) := ⟨⟨by decide +kernel, by decide +kernel⟩, List.mem_of_getElem? (i := 22) (by decide +kernel), List.mem_of_getElem? (i := 274) (by decide +kernel), List.mem_of_getElem? (i := 275) (by decide +kernel)⟩
theorem lw_p9 : lw_okq (⟨"GiftPurposes$Books", "taxOf", "(I)I"⟩, 5) := ⟨⟨by decide +kernel, by decide +kernel⟩, List.mem_of_getElem? (i := 22) (by decide +kernel), List.mem_of_getElem? (i := 278) (by decide +kernel), List.mem_of_getElem? (i := 279) (by decide +kernel)⟩
theorem lw_p10 : lw_okq (⟨"GiftPurposes$Books", "areTwoPurposes", "(II)Z"⟩, 5) := ⟨⟨by decide +kernel, by decide +kernel⟩, List.mem_of_getElem? (i := 22) (by decide +kernel), List.mem_of_getElem? (i := 305) (by decide +kernel), List.mem_of_getElem? (i := 306) (by decide +kernel)⟩
theorem lw_p11 : lw_okq (⟨"GiftPurposes$Books", "areMergeable", "(II)Z"⟩, 5) := ⟨⟨by decide +kernel, by decide +kernel⟩, List.mem_of_getElem? (i := 22) (by decide +kernel), List.mem_of_getElem? (i := 309) (by decide +kernel), List.mem_of_getElem? (i := 310) (by decide +kernel)⟩
theorem lw_p12 : lw_okq (⟨"GiftPurposes$Books", "weightOfDonor", "(II)I"⟩, 5) := ⟨⟨by decide +kernel, by decide +kernel⟩, List.mem_of_getElem? (i := 22) (by decide +kernel), List.mem_of_getElem? (i := 313) (by decide +kernel), List.mem_of_getElem? (i := 314) (by decide +kernel)⟩
theorem lw_p13 : lw_okq (⟨"GiftPurposes$Books", "weightOf", "(II)I"⟩, 5) := ⟨⟨by decide +kernel, by decide +kernel⟩, List.mem_of_getElem? (i := 22) (by decide +kernel), List.mem_of_getElem? (i := 317) (by decide +kernel), List.mem_of_getElem? (i := 318) (by decide +kernel)⟩
theorem lw_p14 : lw_okq (⟨"GiftPurposes$Books", "weightOfAll", "(I)I"⟩, 5) := ⟨⟨by decide +kernel, by decide +kernel⟩, List.mem_of_getElem? (i := 22) (by decide +kernel), List.mem_of_getElem? (i := 329) (by decide +kernel), List.mem_of_getElem? (i := 330) (by decide +kernel)⟩
theorem lw_p15 : lw_okq (⟨"GiftPurposes$Books", "weightOfConsents", "(II)I"⟩, 5) := ⟨⟨by decide +kernel, by decide +kernel⟩, List.mem_of_getElem? (i := 22) (by decide +kernel), List.mem_of_getElem? (i := 333) (by decide +kernel), List.mem_of_getElem? (i := 334) (by decide +kernel)⟩
def lw_privs_1 : List (MethodName × Nat) := [(⟨"GiftPurposes$Books", "bookGift", "(IIII)I"⟩, 5), (⟨"GiftPurposes$Books", "isRunning", "(I)Z"⟩, 5), (⟨"GiftPurposes$Books", "haltPledge", "(I)V"⟩, 5), (⟨"GiftPurposes$Books", "isOf", "(II)Z"⟩, 5), (⟨"GiftPurposes$Books", "canBeClaimed", "(I)Z"⟩, 5), (⟨"GiftPurposes$Books", "isClaimed", "(I)Z"⟩, 5), (⟨"GiftPurposes$Books", "isRefunded", "(I)Z"⟩, 5), (⟨"GiftPurposes$Books", "claimedInYear", "(II)I"⟩, 5), (⟨"GiftPurposes$Books", "homeOfGift", "(I)I"⟩, 5), (⟨"GiftPurposes$Books", "taxOf", "(I)I"⟩, 5), (⟨"GiftPurposes$Books", "areTwoPurposes", "(II)Z"⟩, 5), (⟨"GiftPurposes$Books", "areMergeable", "(II)Z"⟩, 5), (⟨"GiftPurposes$Books", "weightOfDonor", "(II)I"⟩, 5), (⟨"GiftPurposes$Books", "weightOf", "(II)I"⟩, 5), (⟨"GiftPurposes$Books", "weightOfAll", "(I)I"⟩, 5), (⟨"GiftPurposes$Books", "weightOfConsents", "(II)I"⟩, 5)]
theorem lw_r1 : ∀ q ∈ lw_privs_1, lw_okq q := List.forall_mem_cons.mpr ⟨lw_p0, List.forall_mem_cons.mpr ⟨lw_p1, List.forall_mem_cons.mpr ⟨lw_p2, List.forall_mem_cons.mpr ⟨lw_p3, List.forall_mem_cons.mpr ⟨lw_p4, List.forall_mem_cons.mpr ⟨lw_p5, List.forall_mem_cons.mpr ⟨lw_p6, List.forall_mem_cons.mpr ⟨lw_p7, List.forall_mem_cons.mpr ⟨lw_p8, List.forall_mem_cons.mpr ⟨lw_p9, List.forall_mem_cons.mpr ⟨lw_p10, List.forall_mem_cons.mpr ⟨lw_p11, List.forall_mem_cons.mpr ⟨lw_p12, List.forall_mem_cons.mpr ⟨lw_p13, List.forall_mem_cons.mpr ⟨lw_p14, List.forall_mem_cons.mpr ⟨lw_p15, fun _ h => absurd h List.not_mem_nil⟩⟩⟩⟩⟩⟩⟩⟩⟩⟩⟩⟩⟩⟩⟩⟩
theorem lw_p16 : lw_okq (⟨"GiftPurposes$Books", "agreesTo", "(III)Z"⟩, 5) := ⟨⟨by decide +kernel, by decide +kernel⟩, List.mem_of_getElem? (i := 22) (by decide +kernel), List.mem_of_getElem? (i := 337) (by decide +kernel), List.mem_of_getElem? (i := 338) (by decide +kernel)⟩
theorem lw_p17 : lw_okq (⟨"GiftPurposes$Books", "handOnPledges", "(II)V"⟩, 5) := ⟨⟨by decide +kernel, by decide +kernel⟩, List.mem_of_getElem? (i := 22) (by decide +kernel), List.mem_of_getElem? (i := 341) (by decide +kernel), List.mem_of_getElem? (i := 342) (by decide +kernel)⟩
theorem lw_p18 : lw_okq (⟨"GiftPurposes$Books", "forgetConsents", "(I)V"⟩, 5) := ⟨⟨by decide +kernel, by decide +kernel⟩, List.mem_of_getElem? (i := 22) (by decide +kernel), List.mem_of_getElem? (i := 345) (by decide +kernel), List.mem_of_getElem? (i := 346) (by decide +kernel)⟩
theorem lw_p19 : lw_okq (⟨"GiftPurposes$Books", "closePurpose", "(II)V"⟩, 5) := ⟨⟨by decide +kernel, by decide +kernel⟩, List.mem_of_getElem? (i := 22) (by decide +kernel), List.mem_of_getElem? (i := 349) (by decide +kernel), List.mem_of_getElem? (i := 350) (by decide +kernel)⟩
theorem lw_p20 : lw_okq (⟨"GiftPurposes$Books", "moveFund", "(II)I"⟩, 5) := ⟨⟨by decide +kernel, by decide +kernel⟩, List.mem_of_getElem? (i := 22) (by decide +kernel), List.mem_of_getElem? (i := 353) (by decide +kernel), List.mem_of_getElem? (i := 354) (by decide +kernel)⟩
theorem lw_p21 : lw_okq (⟨"GiftPurposes$Books", "runPledge", "(I)V"⟩, 5) := ⟨⟨by decide +kernel, by decide +kernel⟩, List.mem_of_getElem? (i := 22) (by decide +kernel), List.mem_of_getElem? (i := 373) (by decide +kernel), List.mem_of_getElem? (i := 374) (by decide +kernel)⟩
theorem lw_p22 : lw_okq (⟨"GiftPurposes$Books", "amountsOf", "(II)I"⟩, 5) := ⟨⟨by decide +kernel, by decide +kernel⟩, List.mem_of_getElem? (i := 22) (by decide +kernel), List.mem_of_getElem? (i := 402) (by decide +kernel), List.mem_of_getElem? (i := 403) (by decide +kernel)⟩
theorem lw_p23 : lw_okq (⟨"GiftPurposes$Books", "runningPledgesOf", "(I)I"⟩, 5) := ⟨⟨by decide +kernel, by decide +kernel⟩, List.mem_of_getElem? (i := 22) (by decide +kernel), List.mem_of_getElem? (i := 406) (by decide +kernel), List.mem_of_getElem? (i := 407) (by decide +kernel)⟩
theorem lw_p24 : lw_okq (⟨"GiftPurposes$Books", "tellConsent", "(II)I"⟩, 5) := ⟨⟨by decide +kernel, by decide +kernel⟩, List.mem_of_getElem? (i := 22) (by decide +kernel), List.mem_of_getElem? (i := 410) (by decide +kernel), List.mem_of_getElem? (i := 411) (by decide +kernel)⟩
theorem lw_p25 : lw_okq (⟨"GiftPurposes$Books", "closedPurposes", "()I"⟩, 5) := ⟨⟨by decide +kernel, by decide +kernel⟩, List.mem_of_getElem? (i := 22) (by decide +kernel), List.mem_of_getElem? (i := 451) (by decide +kernel), List.mem_of_getElem? (i := 452) (by decide +kernel)⟩
theorem lw_p26 : lw_okq (⟨"GiftPurposes$Script", "readCommand", "()I"⟩, 7) := ⟨⟨by decide +kernel, by decide +kernel⟩, List.mem_of_getElem? (i := 94) (by decide +kernel), List.mem_of_getElem? (i := 525) (by decide +kernel), List.mem_of_getElem? (i := 526) (by decide +kernel)⟩
theorem lw_p27 : lw_okq (⟨"GiftPurposes$Script", "readKind", "()I"⟩, 7) := ⟨⟨by decide +kernel, by decide +kernel⟩, List.mem_of_getElem? (i := 94) (by decide +kernel), List.mem_of_getElem? (i := 529) (by decide +kernel), List.mem_of_getElem? (i := 530) (by decide +kernel)⟩
theorem lw_p28 : lw_okq (⟨"GiftPurposes$Script", "standsNext", "(Ljava/lang/String;)Z"⟩, 7) := ⟨⟨by decide +kernel, by decide +kernel⟩, List.mem_of_getElem? (i := 94) (by decide +kernel), List.mem_of_getElem? (i := 545) (by decide +kernel), List.mem_of_getElem? (i := 546) (by decide +kernel)⟩
theorem lw_p29 : lw_okq (⟨"GiftPurposes$Script", "signAt", "(I)C"⟩, 7) := ⟨⟨by decide +kernel, by decide +kernel⟩, List.mem_of_getElem? (i := 94) (by decide +kernel), List.mem_of_getElem? (i := 559) (by decide +kernel), List.mem_of_getElem? (i := 560) (by decide +kernel)⟩
theorem lw_p30 : lw_okq (⟨"GiftPurposes$Script", "readSign", "(C)Z"⟩, 7) := ⟨⟨by decide +kernel, by decide +kernel⟩, List.mem_of_getElem? (i := 94) (by decide +kernel), List.mem_of_getElem? (i := 607) (by decide +kernel), List.mem_of_getElem? (i := 608) (by decide +kernel)⟩
theorem lw_p31 : lw_okq (⟨"GiftPurposes$Script", "readNumber", "(I)Z"⟩, 7) := ⟨⟨by decide +kernel, by decide +kernel⟩, List.mem_of_getElem? (i := 94) (by decide +kernel), List.mem_of_getElem? (i := 611) (by decide +kernel), List.mem_of_getElem? (i := 612) (by decide +kernel)⟩
def lw_privs_2 : List (MethodName × Nat) := [(⟨"GiftPurposes$Books", "agreesTo", "(III)Z"⟩, 5), (⟨"GiftPurposes$Books", "handOnPledges", "(II)V"⟩, 5), (⟨"GiftPurposes$Books", "forgetConsents", "(I)V"⟩, 5), (⟨"GiftPurposes$Books", "closePurpose", "(II)V"⟩, 5), (⟨"GiftPurposes$Books", "moveFund", "(II)I"⟩, 5), (⟨"GiftPurposes$Books", "runPledge", "(I)V"⟩, 5), (⟨"GiftPurposes$Books", "amountsOf", "(II)I"⟩, 5), (⟨"GiftPurposes$Books", "runningPledgesOf", "(I)I"⟩, 5), (⟨"GiftPurposes$Books", "tellConsent", "(II)I"⟩, 5), (⟨"GiftPurposes$Books", "closedPurposes", "()I"⟩, 5), (⟨"GiftPurposes$Script", "readCommand", "()I"⟩, 7), (⟨"GiftPurposes$Script", "readKind", "()I"⟩, 7), (⟨"GiftPurposes$Script", "standsNext", "(Ljava/lang/String;)Z"⟩, 7), (⟨"GiftPurposes$Script", "signAt", "(I)C"⟩, 7), (⟨"GiftPurposes$Script", "readSign", "(C)Z"⟩, 7), (⟨"GiftPurposes$Script", "readNumber", "(I)Z"⟩, 7)]
theorem lw_r2 : ∀ q ∈ lw_privs_2, lw_okq q := List.forall_mem_cons.mpr ⟨lw_p16, List.forall_mem_cons.mpr ⟨lw_p17, List.forall_mem_cons.mpr ⟨lw_p18, List.forall_mem_cons.mpr ⟨lw_p19, List.forall_mem_cons.mpr ⟨lw_p20, List.forall_mem_cons.mpr ⟨lw_p21, List.forall_mem_cons.mpr ⟨lw_p22, List.forall_mem_cons.mpr ⟨lw_p23, List.forall_mem_cons.mpr ⟨lw_p24, List.forall_mem_cons.mpr ⟨lw_p25, List.forall_mem_cons.mpr ⟨lw_p26, List.forall_mem_cons.mpr ⟨lw_p27, List.forall_mem_cons.mpr ⟨lw_p28, List.forall_mem_cons.mpr ⟨lw_p29, List.forall_mem_cons.mpr ⟨lw_p30, List.forall_mem_cons.mpr ⟨lw_p31, fun _ h => absurd h List.not_mem_nil⟩⟩⟩⟩⟩⟩⟩⟩⟩⟩⟩⟩⟩⟩⟩⟩
theorem lw_p32 : lw_okq (⟨"GiftPurposes$Script", "fail", "(II)I"⟩, 7) := ⟨⟨by decide +kernel, by decide +kernel⟩, List.mem_of_getElem? (i := 94) (by decide +kernel), List.mem_of_getElem? (i := 615) (by decide +kernel), List.mem_of_getElem? (i := 616) (by decide +kernel)⟩
theorem lw_p33 : lw_okq (⟨"GiftPurposes$Script", "perform", "(ILGiftPurposes$Books;)I"⟩, 7) := ⟨⟨by decide +kernel, by decide +kernel⟩, List.mem_of_getElem? (i := 94) (by decide +kernel), List.mem_of_getElem? (i := 619) (by decide +kernel), List.mem_of_getElem? (i := 620) (by decide +kernel)⟩
theorem lw_p34 : lw_okq (⟨"GiftPurposesModel", "putsPurpose", "(III)V"⟩, 15) := ⟨⟨by decide +kernel, by decide +kernel⟩, List.mem_of_getElem? (i := 641) (by decide +kernel), List.mem_of_getElem? (i := 647) (by decide +kernel), List.mem_of_getElem? (i := 648) (by decide +kernel)⟩
theorem lw_p35 : lw_okq (⟨"GiftPurposesModel", "changes", "()V"⟩, 15) := ⟨⟨by decide +kernel, by decide +kernel⟩, List.mem_of_getElem? (i := 641) (by decide +kernel), List.mem_of_getElem? (i := 711) (by decide +kernel), List.mem_of_getElem? (i := 712) (by decide +kernel)⟩
theorem lw_p36 : lw_okq (⟨"GiftPurposesModel", "putsDonor", "(III)V"⟩, 15) := ⟨⟨by decide +kernel, by decide +kernel⟩, List.mem_of_getElem? (i := 641) (by decide +kernel), List.mem_of_getElem? (i := 715) (by decide +kernel), List.mem_of_getElem? (i := 716) (by decide +kernel)⟩
theorem lw_p37 : lw_okq (⟨"GiftPurposesModel", "isDonor", "(I)Z"⟩, 15) := ⟨⟨by decide +kernel, by decide +kernel⟩, List.mem_of_getElem? (i := 641) (by decide +kernel), List.mem_of_getElem? (i := 727) (by decide +kernel), List.mem_of_getElem? (i := 728) (by decide +kernel)⟩
theorem lw_p38 : lw_okq (⟨"GiftPurposesModel", "ofDonor", "(II)I"⟩, 15) := ⟨⟨by decide +kernel, by decide +kernel⟩, List.mem_of_getElem? (i := 641) (by decide +kernel), List.mem_of_getElem? (i := 734) (by decide +kernel), List.mem_of_getElem? (i := 735) (by decide +kernel)⟩
theorem lw_p39 : lw_okq (⟨"GiftPurposesModel", "isPurpose", "(I)Z"⟩, 15) := ⟨⟨by decide +kernel, by decide +kernel⟩, List.mem_of_getElem? (i := 641) (by decide +kernel), List.mem_of_getElem? (i := 742) (by decide +kernel), List.mem_of_getElem? (i := 743) (by decide +kernel)⟩
theorem lw_p40 : lw_okq (⟨"GiftPurposesModel", "isClosed", "(I)Z"⟩, 15) := ⟨⟨by decide +kernel, by decide +kernel⟩, List.mem_of_getElem? (i := 641) (by decide +kernel), List.mem_of_getElem? (i := 746) (by decide +kernel), List.mem_of_getElem? (i := 747) (by decide +kernel)⟩
theorem lw_p41 : lw_okq (⟨"GiftPurposesModel", "ofPurpose", "(II)I"⟩, 15) := ⟨⟨by decide +kernel, by decide +kernel⟩, List.mem_of_getElem? (i := 641) (by decide +kernel), List.mem_of_getElem? (i := 750) (by decide +kernel), List.mem_of_getElem? (i := 751) (by decide +kernel)⟩
theorem lw_p42 : lw_okq (⟨"GiftPurposesModel", "gives", "(IIII)I"⟩, 15) := ⟨⟨by decide +kernel, by decide +kernel⟩, List.mem_of_getElem? (i := 641) (by decide +kernel), List.mem_of_getElem? (i := 754) (by decide +kernel), List.mem_of_getElem? (i := 755) (by decide +kernel)⟩
theorem lw_p43 : lw_okq (⟨"GiftPurposesModel", "adds", "(III)V"⟩, 15) := ⟨⟨by decide +kernel, by decide +kernel⟩, List.mem_of_getElem? (i := 641) (by decide +kernel), List.mem_of_getElem? (i := 758) (by decide +kernel), List.mem_of_getElem? (i := 759) (by decide +kernel)⟩
theorem lw_p44 : lw_okq (⟨"GiftPurposesModel", "putsPledge", "(III)V"⟩, 15) := ⟨⟨by decide +kernel, by decide +kernel⟩, List.mem_of_getElem? (i := 641) (by decide +kernel), List.mem_of_getElem? (i := 766) (by decide +kernel), List.mem_of_getElem? (i := 767) (by decide +kernel)⟩
theorem lw_p45 : lw_okq (⟨"GiftPurposesModel", "isPledge", "(I)Z"⟩, 15) := ⟨⟨by decide +kernel, by decide +kernel⟩, List.mem_of_getElem? (i := 641) (by decide +kernel), List.mem_of_getElem? (i := 774) (by decide +kernel), List.mem_of_getElem? (i := 775) (by decide +kernel)⟩
theorem lw_p46 : lw_okq (⟨"GiftPurposesModel", "ofPledge", "(II)I"⟩, 15) := ⟨⟨by decide +kernel, by decide +kernel⟩, List.mem_of_getElem? (i := 641) (by decide +kernel), List.mem_of_getElem? (i := 778) (by decide +kernel), List.mem_of_getElem? (i := 779) (by decide +kernel)⟩
theorem lw_p47 : lw_okq (⟨"GiftPurposesModel", "ends", "(II)V"⟩, 15) := ⟨⟨by decide +kernel, by decide +kernel⟩, List.mem_of_getElem? (i := 641) (by decide +kernel), List.mem_of_getElem? (i := 786) (by decide +kernel), List.mem_of_getElem? (i := 787) (by decide +kernel)⟩
def lw_privs_3 : List (MethodName × Nat) := [(⟨"GiftPurposes$Script", "fail", "(II)I"⟩, 7), (⟨"GiftPurposes$Script", "perform", "(ILGiftPurposes$Books;)I"⟩, 7), (⟨"GiftPurposesModel", "putsPurpose", "(III)V"⟩, 15), (⟨"GiftPurposesModel", "changes", "()V"⟩, 15), (⟨"GiftPurposesModel", "putsDonor", "(III)V"⟩, 15), (⟨"GiftPurposesModel", "isDonor", "(I)Z"⟩, 15), (⟨"GiftPurposesModel", "ofDonor", "(II)I"⟩, 15), (⟨"GiftPurposesModel", "isPurpose", "(I)Z"⟩, 15), (⟨"GiftPurposesModel", "isClosed", "(I)Z"⟩, 15), (⟨"GiftPurposesModel", "ofPurpose", "(II)I"⟩, 15), (⟨"GiftPurposesModel", "gives", "(IIII)I"⟩, 15), (⟨"GiftPurposesModel", "adds", "(III)V"⟩, 15), (⟨"GiftPurposesModel", "putsPledge", "(III)V"⟩, 15), (⟨"GiftPurposesModel", "isPledge", "(I)Z"⟩, 15), (⟨"GiftPurposesModel", "ofPledge", "(II)I"⟩, 15), (⟨"GiftPurposesModel", "ends", "(II)V"⟩, 15)]
theorem lw_r3 : ∀ q ∈ lw_privs_3, lw_okq q := List.forall_mem_cons.mpr ⟨lw_p32, List.forall_mem_cons.mpr ⟨lw_p33, List.forall_mem_cons.mpr ⟨lw_p34, List.forall_mem_cons.mpr ⟨lw_p35, List.forall_mem_cons.mpr ⟨lw_p36, List.forall_mem_cons.mpr ⟨lw_p37, List.forall_mem_cons.mpr ⟨lw_p38, List.forall_mem_cons.mpr ⟨lw_p39, List.forall_mem_cons.mpr ⟨lw_p40, List.forall_mem_cons.mpr ⟨lw_p41, List.forall_mem_cons.mpr ⟨lw_p42, List.forall_mem_cons.mpr ⟨lw_p43, List.forall_mem_cons.mpr ⟨lw_p44, List.forall_mem_cons.mpr ⟨lw_p45, List.forall_mem_cons.mpr ⟨lw_p46, List.forall_mem_cons.mpr ⟨lw_p47, fun _ h => absurd h List.not_mem_nil⟩⟩⟩⟩⟩⟩⟩⟩⟩⟩⟩⟩⟩⟩⟩⟩
theorem lw_p48 : lw_okq (⟨"GiftPurposesModel", "claims", "(I)I"⟩, 15) := ⟨⟨by decide +kernel, by decide +kernel⟩, List.mem_of_getElem? (i := 641) (by decide +kernel), List.mem_of_getElem? (i := 797) (by decide +kernel), List.mem_of_getElem? (i := 798) (by decide +kernel)⟩
theorem lw_p49 : lw_okq (⟨"GiftPurposesModel", "ofGift", "(II)I"⟩, 15) := ⟨⟨by decide +kernel, by decide +kernel⟩, List.mem_of_getElem? (i := 641) (by decide +kernel), List.mem_of_getElem? (i := 801) (by decide +kernel), List.mem_of_getElem? (i := 802) (by decide +kernel)⟩
theorem lw_p50 : lw_okq (⟨"GiftPurposesModel", "canClaim", "(I)Z"⟩, 15) := ⟨⟨by decide +kernel, by decide +kernel⟩, List.mem_of_getElem? (i := 641) (by decide +kernel), List.mem_of_getElem? (i := 805) (by decide +kernel), List.mem_of_getElem? (i := 806) (by decide +kernel)⟩
theorem lw_p51 : lw_okq (⟨"GiftPurposesModel", "home", "(I)I"⟩, 15) := ⟨⟨by decide +kernel, by decide +kernel⟩, List.mem_of_getElem? (i := 641) (by decide +kernel), List.mem_of_getElem? (i := 812) (by decide +kernel), List.mem_of_getElem? (i := 813) (by decide +kernel)⟩
theorem lw_p52 : lw_okq (⟨"GiftPurposesModel", "areTwo", "(II)Z"⟩, 15) := ⟨⟨by decide +kernel, by decide +kernel⟩, List.mem_of_getElem? (i := 641) (by decide +kernel), List.mem_of_getElem? (i := 828) (by decide +kernel), List.mem_of_getElem? (i := 829) (by decide +kernel)⟩
theorem lw_p53 : lw_okq (⟨"GiftPurposesModel", "weight", "(II)I"⟩, 15) := ⟨⟨by decide +kernel, by decide +kernel⟩, List.mem_of_getElem? (i := 641) (by decide +kernel), List.mem_of_getElem? (i := 832) (by decide +kernel), List.mem_of_getElem? (i := 833) (by decide +kernel)⟩
theorem lw_p54 : lw_okq (⟨"GiftPurposesModel", "weights", "(II)I"⟩, 15) := ⟨⟨by decide +kernel, by decide +kernel⟩, List.mem_of_getElem? (i := 641) (by decide +kernel), List.mem_of_getElem? (i := 840) (by decide +kernel), List.mem_of_getElem? (i := 841) (by decide +kernel)⟩
theorem lw_p55 : lw_okq (⟨"GiftPurposesModel", "goes", "(I)I"⟩, 15) := ⟨⟨by decide +kernel, by decide +kernel⟩, List.mem_of_getElem? (i := 641) (by decide +kernel), List.mem_of_getElem? (i := 852) (by decide +kernel), List.mem_of_getElem? (i := 853) (by decide +kernel)⟩
theorem lw_p56 : lw_okq (⟨"GiftPurposesModel", "month", "(I)I"⟩, 15) := ⟨⟨by decide +kernel, by decide +kernel⟩, List.mem_of_getElem? (i := 641) (by decide +kernel), List.mem_of_getElem? (i := 856) (by decide +kernel), List.mem_of_getElem? (i := 857) (by decide +kernel)⟩
theorem lw_p57 : lw_okq (⟨"GiftPurposesModel", "given", "(II)I"⟩, 15) := ⟨⟨by decide +kernel, by decide +kernel⟩, List.mem_of_getElem? (i := 641) (by decide +kernel), List.mem_of_getElem? (i := 873) (by decide +kernel), List.mem_of_getElem? (i := 874) (by decide +kernel)⟩
theorem lw_p58 : lw_okq (⟨"GiftPurposesModel", "running", "(I)I"⟩, 15) := ⟨⟨by decide +kernel, by decide +kernel⟩, List.mem_of_getElem? (i := 641) (by decide +kernel), List.mem_of_getElem? (i := 877) (by decide +kernel), List.mem_of_getElem? (i := 878) (by decide +kernel)⟩
theorem lw_p59 : lw_okq (⟨"GiftPurposesModel", "all", "(I)I"⟩, 15) := ⟨⟨by decide +kernel, by decide +kernel⟩, List.mem_of_getElem? (i := 641) (by decide +kernel), List.mem_of_getElem? (i := 893) (by decide +kernel), List.mem_of_getElem? (i := 894) (by decide +kernel)⟩
theorem lw_p60 : lw_okq (⟨"GiftPurposesModel", "plays", "()I"⟩, 15) := ⟨⟨by decide +kernel, by decide +kernel⟩, List.mem_of_getElem? (i := 641) (by decide +kernel), List.mem_of_getElem? (i := 921) (by decide +kernel), List.mem_of_getElem? (i := 922) (by decide +kernel)⟩
theorem lw_p61 : lw_okq (⟨"GiftPurposesModel", "reads", "()I"⟩, 15) := ⟨⟨by decide +kernel, by decide +kernel⟩, List.mem_of_getElem? (i := 641) (by decide +kernel), List.mem_of_getElem? (i := 925) (by decide +kernel), List.mem_of_getElem? (i := 926) (by decide +kernel)⟩
theorem lw_p62 : lw_okq (⟨"GiftPurposesModel", "word", "()I"⟩, 15) := ⟨⟨by decide +kernel, by decide +kernel⟩, List.mem_of_getElem? (i := 641) (by decide +kernel), List.mem_of_getElem? (i := 929) (by decide +kernel), List.mem_of_getElem? (i := 930) (by decide +kernel)⟩
theorem lw_p63 : lw_okq (⟨"GiftPurposesModel", "isAt", "(II)Z"⟩, 15) := ⟨⟨by decide +kernel, by decide +kernel⟩, List.mem_of_getElem? (i := 641) (by decide +kernel), List.mem_of_getElem? (i := 933) (by decide +kernel), List.mem_of_getElem? (i := 934) (by decide +kernel)⟩
def lw_privs_4 : List (MethodName × Nat) := [(⟨"GiftPurposesModel", "claims", "(I)I"⟩, 15), (⟨"GiftPurposesModel", "ofGift", "(II)I"⟩, 15), (⟨"GiftPurposesModel", "canClaim", "(I)Z"⟩, 15), (⟨"GiftPurposesModel", "home", "(I)I"⟩, 15), (⟨"GiftPurposesModel", "areTwo", "(II)Z"⟩, 15), (⟨"GiftPurposesModel", "weight", "(II)I"⟩, 15), (⟨"GiftPurposesModel", "weights", "(II)I"⟩, 15), (⟨"GiftPurposesModel", "goes", "(I)I"⟩, 15), (⟨"GiftPurposesModel", "month", "(I)I"⟩, 15), (⟨"GiftPurposesModel", "given", "(II)I"⟩, 15), (⟨"GiftPurposesModel", "running", "(I)I"⟩, 15), (⟨"GiftPurposesModel", "all", "(I)I"⟩, 15), (⟨"GiftPurposesModel", "plays", "()I"⟩, 15), (⟨"GiftPurposesModel", "reads", "()I"⟩, 15), (⟨"GiftPurposesModel", "word", "()I"⟩, 15), (⟨"GiftPurposesModel", "isAt", "(II)Z"⟩, 15)]
theorem lw_r4 : ∀ q ∈ lw_privs_4, lw_okq q := List.forall_mem_cons.mpr ⟨lw_p48, List.forall_mem_cons.mpr ⟨lw_p49, List.forall_mem_cons.mpr ⟨lw_p50, List.forall_mem_cons.mpr ⟨lw_p51, List.forall_mem_cons.mpr ⟨lw_p52, List.forall_mem_cons.mpr ⟨lw_p53, List.forall_mem_cons.mpr ⟨lw_p54, List.forall_mem_cons.mpr ⟨lw_p55, List.forall_mem_cons.mpr ⟨lw_p56, List.forall_mem_cons.mpr ⟨lw_p57, List.forall_mem_cons.mpr ⟨lw_p58, List.forall_mem_cons.mpr ⟨lw_p59, List.forall_mem_cons.mpr ⟨lw_p60, List.forall_mem_cons.mpr ⟨lw_p61, List.forall_mem_cons.mpr ⟨lw_p62, List.forall_mem_cons.mpr ⟨lw_p63, fun _ h => absurd h List.not_mem_nil⟩⟩⟩⟩⟩⟩⟩⟩⟩⟩⟩⟩⟩⟩⟩⟩
theorem lw_p64 : lw_okq (⟨"GiftPurposesModel", "passes", "(I)Z"⟩, 15) := ⟨⟨by decide +kernel, by decide +kernel⟩, List.mem_of_getElem? (i := 641) (by decide +kernel), List.mem_of_getElem? (i := 938) (by decide +kernel), List.mem_of_getElem? (i := 939) (by decide +kernel)⟩
theorem lw_p65 : lw_okq (⟨"GiftPurposesModel", "number", "(I)Z"⟩, 15) := ⟨⟨by decide +kernel, by decide +kernel⟩, List.mem_of_getElem? (i := 641) (by decide +kernel), List.mem_of_getElem? (i := 942) (by decide +kernel), List.mem_of_getElem? (i := 943) (by decide +kernel)⟩
theorem lw_p66 : lw_okq (⟨"GiftPurposesModel", "calls", "(I)I"⟩, 15) := ⟨⟨by decide +kernel, by decide +kernel⟩, List.mem_of_getElem? (i := 641) (by decide +kernel), List.mem_of_getElem? (i := 946) (by decide +kernel), List.mem_of_getElem? (i := 947) (by decide +kernel)⟩
def lw_privs_5 : List (MethodName × Nat) := [(⟨"GiftPurposesModel", "passes", "(I)Z"⟩, 15), (⟨"GiftPurposesModel", "number", "(I)Z"⟩, 15), (⟨"GiftPurposesModel", "calls", "(I)I"⟩, 15)]
theorem lw_r5 : ∀ q ∈ lw_privs_5, lw_okq q := List.forall_mem_cons.mpr ⟨lw_p64, List.forall_mem_cons.mpr ⟨lw_p65, List.forall_mem_cons.mpr ⟨lw_p66, fun _ h => absurd h List.not_mem_nil⟩⟩⟩
def lw_privs : List (MethodName × Nat) := lw_privs_1 ++ (lw_privs_2 ++ (lw_privs_3 ++ (lw_privs_4 ++ (lw_privs_5))))
def lw_tbl : List Cond := k2_sels lw_privs ++ tables_1
theorem lw_privs_ok : ∀ q ∈ lw_privs, lw_okq q := by
  show ∀ q ∈ lw_privs_1 ++ (lw_privs_2 ++ (lw_privs_3 ++ (lw_privs_4 ++ (lw_privs_5)))), lw_okq q
  exact List.forall_mem_append.mpr ⟨lw_r1, List.forall_mem_append.mpr ⟨lw_r2, List.forall_mem_append.mpr ⟨lw_r3, List.forall_mem_append.mpr ⟨lw_r4, lw_r5⟩⟩⟩⟩
/-! ===== BEGIN printed: names, fields, word lists, decode rows ===== -/
def RX0 : String := "GiftPurposes$Books"
def TX0 : u_T := fun k => match k with
  | 0 => ("GiftPurposes$Books", "cells", "[I", true)
  | 1 => ("GiftPurposes$Books", "purposes", "LGiftPurposes$Table;", true)
  | 2 => ("GiftPurposes$Books", "donors", "LGiftPurposes$Table;", true)
  | 3 => ("GiftPurposes$Books", "gifts", "LGiftPurposes$Table;", true)
  | _ => ("GiftPurposes$Books", "pledges", "LGiftPurposes$Table;", true)
def tyX0 : Nat → FieldType := fun k => match k with
  | 0 => .array .int
  | 1 => .object "GiftPurposes$Table"
  | 2 => .object "GiftPurposes$Table"
  | 3 => .object "GiftPurposes$Table"
  | _ => .object "GiftPurposes$Table"
abbrev wsX00 : List Cond := u_ws RX0 TX0 5
theorem nmX0 : ∀ a, a < 5 → ∀ b, b < 5 → a ≠ b → (TX0 a).2.1 ≠ (TX0 b).2.1 := by decide +kernel
theorem tyX0_ok : ∀ k, k < 5 → parseFieldDescriptor (TX0 k).2.2.1 = some (tyX0 k) := by decide +kernel
abbrev cX0_init : ByteArray := prog_2_method_1_code
def yX0_init : MethodName := ⟨RX0, "<init>", "([I)V"⟩
abbrev cX0_copyFrom : ByteArray := prog_2_method_2_code
def yX0_copyFrom : MethodName := ⟨RX0, "copyFrom", "(LGiftPurposes$Books;)V"⟩
abbrev cX0_saveTo : ByteArray := prog_2_method_3_code
def yX0_saveTo : MethodName := ⟨RX0, "saveTo", "([I)V"⟩
abbrev cX0_loadFrom : ByteArray := prog_2_method_4_code
def yX0_loadFrom : MethodName := ⟨RX0, "loadFrom", "([I)V"⟩
abbrev cX0_addPurpose : ByteArray := prog_2_method_5_code
def yX0_addPurpose : MethodName := ⟨RX0, "addPurpose", "()I"⟩
abbrev cX0_addDonor : ByteArray := prog_2_method_6_code
def yX0_addDonor : MethodName := ⟨RX0, "addDonor", "()I"⟩
abbrev cX0_letDeclare : ByteArray := prog_2_method_7_code
def yX0_letDeclare : MethodName := ⟨RX0, "letDeclare", "(II)I"⟩
abbrev cX0_hasPurpose : ByteArray := prog_2_method_8_code
def yX0_hasPurpose : MethodName := ⟨RX0, "hasPurpose", "(I)Z"⟩
abbrev cX0_hasDonor : ByteArray := prog_2_method_9_code
def yX0_hasDonor : MethodName := ⟨RX0, "hasDonor", "(I)Z"⟩
abbrev cX0_isClosed : ByteArray := prog_2_method_10_code
def yX0_isClosed : MethodName := ⟨RX0, "isClosed", "(I)Z"⟩
abbrev cX0_fundOf : ByteArray := prog_2_method_11_code
def yX0_fundOf : MethodName := ⟨RX0, "fundOf", "(I)I"⟩
abbrev cX0_addGift : ByteArray := prog_2_method_12_code
def yX0_addGift : MethodName := ⟨RX0, "addGift", "(III)I"⟩
abbrev cX0_bookGift : ByteArray := prog_2_method_13_code
def yX0_bookGift : MethodName := ⟨RX0, "bookGift", "(IIII)I"⟩
abbrev cX0_taxOf : ByteArray := prog_2_method_14_code
def yX0_taxOf : MethodName := ⟨RX0, "taxOf", "(I)I"⟩
abbrev cX0_homeOfGift : ByteArray := prog_2_method_15_code
def yX0_homeOfGift : MethodName := ⟨RX0, "homeOfGift", "(I)I"⟩
abbrev cX0_isOf : ByteArray := prog_2_method_16_code
def yX0_isOf : MethodName := ⟨RX0, "isOf", "(II)Z"⟩
abbrev cX0_isClaimed : ByteArray := prog_2_method_17_code
def yX0_isClaimed : MethodName := ⟨RX0, "isClaimed", "(I)Z"⟩
abbrev cX0_isRefunded : ByteArray := prog_2_method_18_code
def yX0_isRefunded : MethodName := ⟨RX0, "isRefunded", "(I)Z"⟩
abbrev cX0_addPledge : ByteArray := prog_2_method_19_code
def yX0_addPledge : MethodName := ⟨RX0, "addPledge", "(IIII)I"⟩
abbrev cX0_tellMiss : ByteArray := prog_2_method_20_code
def yX0_tellMiss : MethodName := ⟨RX0, "tellMiss", "(I)I"⟩
abbrev cX0_stopPledge : ByteArray := prog_2_method_21_code
def yX0_stopPledge : MethodName := ⟨RX0, "stopPledge", "(I)I"⟩
abbrev cX0_isRunning : ByteArray := prog_2_method_22_code
def yX0_isRunning : MethodName := ⟨RX0, "isRunning", "(I)Z"⟩
abbrev cX0_haltPledge : ByteArray := prog_2_method_23_code
def yX0_haltPledge : MethodName := ⟨RX0, "haltPledge", "(I)V"⟩
abbrev cX0_isSpan : ByteArray := prog_2_method_24_code
def yX0_isSpan : MethodName := ⟨RX0, "isSpan", "(I)Z"⟩
abbrev cX0_passMonths : ByteArray := prog_2_method_25_code
def yX0_passMonths : MethodName := ⟨RX0, "passMonths", "(II)I"⟩
abbrev cX0_runPledge : ByteArray := prog_2_method_26_code
def yX0_runPledge : MethodName := ⟨RX0, "runPledge", "(I)V"⟩
abbrev cX0_claimGifts : ByteArray := prog_2_method_27_code
def yX0_claimGifts : MethodName := ⟨RX0, "claimGifts", "(I)I"⟩
abbrev cX0_canBeClaimed : ByteArray := prog_2_method_28_code
def yX0_canBeClaimed : MethodName := ⟨RX0, "canBeClaimed", "(I)Z"⟩
abbrev cX0_claimedInYear : ByteArray := prog_2_method_29_code
def yX0_claimedInYear : MethodName := ⟨RX0, "claimedInYear", "(II)I"⟩
abbrev cX0_spendOn : ByteArray := prog_2_method_30_code
def yX0_spendOn : MethodName := ⟨RX0, "spendOn", "(II)I"⟩
abbrev cX0_refundGift : ByteArray := prog_2_method_31_code
def yX0_refundGift : MethodName := ⟨RX0, "refundGift", "(I)I"⟩
abbrev cX0_consentTo : ByteArray := prog_2_method_32_code
def yX0_consentTo : MethodName := ⟨RX0, "consentTo", "(III)I"⟩
abbrev cX0_mergePurpose : ByteArray := prog_2_method_33_code
def yX0_mergePurpose : MethodName := ⟨RX0, "mergePurpose", "(II)I"⟩
abbrev cX0_tellConsents : ByteArray := prog_2_method_34_code
def yX0_tellConsents : MethodName := ⟨RX0, "tellConsents", "(II)I"⟩
abbrev cX0_areTwoPurposes : ByteArray := prog_2_method_35_code
def yX0_areTwoPurposes : MethodName := ⟨RX0, "areTwoPurposes", "(II)Z"⟩
abbrev cX0_areMergeable : ByteArray := prog_2_method_36_code
def yX0_areMergeable : MethodName := ⟨RX0, "areMergeable", "(II)Z"⟩
abbrev cX0_agreesTo : ByteArray := prog_2_method_37_code
def yX0_agreesTo : MethodName := ⟨RX0, "agreesTo", "(III)Z"⟩
abbrev cX0_weightOf : ByteArray := prog_2_method_38_code
def yX0_weightOf : MethodName := ⟨RX0, "weightOf", "(II)I"⟩
abbrev cX0_weightOfDonor : ByteArray := prog_2_method_39_code
def yX0_weightOfDonor : MethodName := ⟨RX0, "weightOfDonor", "(II)I"⟩
abbrev cX0_weightOfAll : ByteArray := prog_2_method_40_code
def yX0_weightOfAll : MethodName := ⟨RX0, "weightOfAll", "(I)I"⟩
abbrev cX0_weightOfConsents : ByteArray := prog_2_method_41_code
def yX0_weightOfConsents : MethodName := ⟨RX0, "weightOfConsents", "(II)I"⟩
abbrev cX0_handOnPledges : ByteArray := prog_2_method_42_code
def yX0_handOnPledges : MethodName := ⟨RX0, "handOnPledges", "(II)V"⟩
abbrev cX0_forgetConsents : ByteArray := prog_2_method_43_code
def yX0_forgetConsents : MethodName := ⟨RX0, "forgetConsents", "(I)V"⟩
abbrev cX0_closePurpose : ByteArray := prog_2_method_44_code
def yX0_closePurpose : MethodName := ⟨RX0, "closePurpose", "(II)V"⟩
abbrev cX0_moveFund : ByteArray := prog_2_method_45_code
def yX0_moveFund : MethodName := ⟨RX0, "moveFund", "(II)I"⟩
abbrev cX0_changeSetting : ByteArray := prog_2_method_46_code
def yX0_changeSetting : MethodName := ⟨RX0, "changeSetting", "(II)I"⟩
abbrev cX0_tellPurpose : ByteArray := prog_2_method_47_code
def yX0_tellPurpose : MethodName := ⟨RX0, "tellPurpose", "(II)I"⟩
abbrev cX0_tellDonor : ByteArray := prog_2_method_48_code
def yX0_tellDonor : MethodName := ⟨RX0, "tellDonor", "(II)I"⟩
abbrev cX0_tellConsent : ByteArray := prog_2_method_49_code
def yX0_tellConsent : MethodName := ⟨RX0, "tellConsent", "(II)I"⟩
abbrev cX0_amountsOf : ByteArray := prog_2_method_50_code
def yX0_amountsOf : MethodName := ⟨RX0, "amountsOf", "(II)I"⟩
abbrev cX0_runningPledgesOf : ByteArray := prog_2_method_51_code
def yX0_runningPledgesOf : MethodName := ⟨RX0, "runningPledgesOf", "(I)I"⟩
abbrev cX0_tellGift : ByteArray := prog_2_method_52_code
def yX0_tellGift : MethodName := ⟨RX0, "tellGift", "(II)I"⟩
abbrev cX0_tellPledge : ByteArray := prog_2_method_53_code
def yX0_tellPledge : MethodName := ⟨RX0, "tellPledge", "(II)I"⟩
abbrev cX0_tellNumber : ByteArray := prog_2_method_54_code
def yX0_tellNumber : MethodName := ⟨RX0, "tellNumber", "(I)I"⟩
abbrev cX0_closedPurposes : ByteArray := prog_2_method_55_code
def yX0_closedPurposes : MethodName := ⟨RX0, "closedPurposes", "()I"⟩
def RX1 : String := "GiftPurposes$History"
def TX1 : u_T := fun k => match k with
  | 0 => ("GiftPurposes$History", "rows", "[[I", true)
  | 1 => ("GiftPurposes$History", "oldest", "I", false)
  | _ => ("GiftPurposes$History", "states", "I", false)
def tyX1 : Nat → FieldType := fun k => match k with
  | 0 => .array (.array .int)
  | 1 => .int
  | _ => .int
abbrev wsX10 : List Cond := u_ws RX1 TX1 3
theorem nmX1 : ∀ a, a < 3 → ∀ b, b < 3 → a ≠ b → (TX1 a).2.1 ≠ (TX1 b).2.1 := by decide +kernel
theorem tyX1_ok : ∀ k, k < 3 → parseFieldDescriptor (TX1 k).2.2.1 = some (tyX1 k) := by decide +kernel
abbrev cX1_init : ByteArray := prog_3_method_1_code
def yX1_init : MethodName := ⟨RX1, "<init>", "()V"⟩
abbrev cX1_size : ByteArray := prog_3_method_2_code
def yX1_size : MethodName := ⟨RX1, "size", "()I"⟩
abbrev cX1_draft : ByteArray := prog_3_method_3_code
def yX1_draft : MethodName := ⟨RX1, "draft", "(LGiftPurposes$Books;)V"⟩
abbrev cX1_keepUnlessError : ByteArray := prog_3_method_4_code
def yX1_keepUnlessError : MethodName := ⟨RX1, "keepUnlessError", "(I)I"⟩
abbrev cX1_restoreLatest : ByteArray := prog_3_method_5_code
def yX1_restoreLatest : MethodName := ⟨RX1, "restoreLatest", "(LGiftPurposes$Books;)I"⟩
def RX2 : String := "GiftPurposes$Script"
def TX2 : u_T := fun k => match k with
  | 0 => ("GiftPurposes$Script", "signs", "[C", true)
  | 1 => ("GiftPurposes$Script", "length", "I", false)
  | 2 => ("GiftPurposes$Script", "numbers", "[I", true)
  | 3 => ("GiftPurposes$Script", "read", "I", false)
  | 4 => ("GiftPurposes$Script", "place", "I", false)
  | 5 => ("GiftPurposes$Script", "reason", "I", false)
  | _ => ("GiftPurposes$Script", "cause", "I", false)
def tyX2 : Nat → FieldType := fun k => match k with
  | 0 => .array .char
  | 1 => .int
  | 2 => .array .int
  | 3 => .int
  | 4 => .int
  | 5 => .int
  | _ => .int
abbrev wsX20 : List Cond := u_ws RX2 TX2 7
theorem nmX2 : ∀ a, a < 7 → ∀ b, b < 7 → a ≠ b → (TX2 a).2.1 ≠ (TX2 b).2.1 := by decide +kernel
theorem tyX2_ok : ∀ k, k < 7 → parseFieldDescriptor (TX2 k).2.2.1 = some (tyX2 k) := by decide +kernel
abbrev cX2_init : ByteArray := prog_4_method_1_code
def yX2_init : MethodName := ⟨RX2, "<init>", "()V"⟩
abbrev cX2_size : ByteArray := prog_4_method_2_code
def yX2_size : MethodName := ⟨RX2, "size", "()I"⟩
abbrev cX2_append : ByteArray := prog_4_method_3_code
def yX2_append : MethodName := ⟨RX2, "append", "(I)I"⟩
abbrev cX2_empty : ByteArray := prog_4_method_4_code
def yX2_empty : MethodName := ⟨RX2, "empty", "()I"⟩
abbrev cX2_runOn : ByteArray := prog_4_method_5_code
def yX2_runOn : MethodName := ⟨RX2, "runOn", "(LGiftPurposes$Books;)I"⟩
abbrev cX2_tellFault : ByteArray := prog_4_method_6_code
def yX2_tellFault : MethodName := ⟨RX2, "tellFault", "(I)I"⟩
abbrev cX2_fail : ByteArray := prog_4_method_7_code
def yX2_fail : MethodName := ⟨RX2, "fail", "(II)I"⟩
abbrev cX2_readCommand : ByteArray := prog_4_method_8_code
def yX2_readCommand : MethodName := ⟨RX2, "readCommand", "()I"⟩
abbrev cX2_readKind : ByteArray := prog_4_method_9_code
def yX2_readKind : MethodName := ⟨RX2, "readKind", "()I"⟩
abbrev cX2_standsNext : ByteArray := prog_4_method_10_code
def yX2_standsNext : MethodName := ⟨RX2, "standsNext", "(Ljava/lang/String;)Z"⟩
abbrev cX2_readSign : ByteArray := prog_4_method_11_code
def yX2_readSign : MethodName := ⟨RX2, "readSign", "(C)Z"⟩
abbrev cX2_readNumber : ByteArray := prog_4_method_12_code
def yX2_readNumber : MethodName := ⟨RX2, "readNumber", "(I)Z"⟩
abbrev cX2_signAt : ByteArray := prog_4_method_13_code
def yX2_signAt : MethodName := ⟨RX2, "signAt", "(I)C"⟩
abbrev cX2_perform : ByteArray := prog_4_method_14_code
def yX2_perform : MethodName := ⟨RX2, "perform", "(ILGiftPurposes$Books;)I"⟩
abbrev cX2_wordOf : ByteArray := prog_4_method_15_code
def yX2_wordOf : MethodName := ⟨RX2, "wordOf", "(I)Ljava/lang/String;"⟩
abbrev cX2_numbersOf : ByteArray := prog_4_method_16_code
def yX2_numbersOf : MethodName := ⟨RX2, "numbersOf", "(I)I"⟩
def RX3 : String := "GiftPurposes$Table"
def TX3 : u_T := fun k => match k with
  | 0 => ("GiftPurposes$Table", "cells", "[I", true)
  | 1 => ("GiftPurposes$Table", "start", "I", true)
  | 2 => ("GiftPurposes$Table", "most", "I", true)
  | _ => ("GiftPurposes$Table", "width", "I", true)
def tyX3 : Nat → FieldType := fun k => match k with
  | 0 => .array .int
  | 1 => .int
  | 2 => .int
  | _ => .int
abbrev wsX30 : List Cond := u_ws RX3 TX3 4
theorem nmX3 : ∀ a, a < 4 → ∀ b, b < 4 → a ≠ b → (TX3 a).2.1 ≠ (TX3 b).2.1 := by decide +kernel
theorem tyX3_ok : ∀ k, k < 4 → parseFieldDescriptor (TX3 k).2.2.1 = some (tyX3 k) := by decide +kernel
abbrev cX3_init : ByteArray := prog_5_method_1_code
def yX3_init : MethodName := ⟨RX3, "<init>", "([IIII)V"⟩
abbrev cX3_size : ByteArray := prog_5_method_2_code
def yX3_size : MethodName := ⟨RX3, "size", "()I"⟩
abbrev cX3_has : ByteArray := prog_5_method_3_code
def yX3_has : MethodName := ⟨RX3, "has", "(I)Z"⟩
abbrev cX3_isFull : ByteArray := prog_5_method_4_code
def yX3_isFull : MethodName := ⟨RX3, "isFull", "()Z"⟩
abbrev cX3_addRow : ByteArray := prog_5_method_5_code
def yX3_addRow : MethodName := ⟨RX3, "addRow", "()I"⟩
abbrev cX3_at : ByteArray := prog_5_method_6_code
def yX3_at : MethodName := ⟨RX3, "at", "(II)I"⟩
abbrev cX3_put : ByteArray := prog_5_method_7_code
def yX3_put : MethodName := ⟨RX3, "put", "(III)V"⟩
abbrev cX3_add : ByteArray := prog_5_method_8_code
def yX3_add : MethodName := ⟨RX3, "add", "(III)V"⟩
abbrev cX3_sumOf : ByteArray := prog_5_method_9_code
def yX3_sumOf : MethodName := ⟨RX3, "sumOf", "(I)I"⟩
def RX4 : String := "GiftPurposes"
def TX4 : u_T := fun k => match k with
  | 0 => ("GiftPurposes", "books", "LGiftPurposes$Books;", true)
  | 1 => ("GiftPurposes", "trial", "LGiftPurposes$Books;", true)
  | 2 => ("GiftPurposes", "history", "LGiftPurposes$History;", true)
  | _ => ("GiftPurposes", "script", "LGiftPurposes$Script;", true)
def tyX4 : Nat → FieldType := fun k => match k with
  | 0 => .object "GiftPurposes$Books"
  | 1 => .object "GiftPurposes$Books"
  | 2 => .object "GiftPurposes$History"
  | _ => .object "GiftPurposes$Script"
abbrev wsX40 : List Cond := u_ws RX4 TX4 4
theorem nmX4 : ∀ a, a < 4 → ∀ b, b < 4 → a ≠ b → (TX4 a).2.1 ≠ (TX4 b).2.1 := by decide +kernel
theorem tyX4_ok : ∀ k, k < 4 → parseFieldDescriptor (TX4 k).2.2.1 = some (tyX4 k) := by decide +kernel
abbrev cX4_init : ByteArray := prog_1_method_1_code
def yX4_init : MethodName := ⟨RX4, "<init>", "()V"⟩
abbrev cX4_purpose : ByteArray := prog_1_method_2_code
def yX4_purpose : MethodName := ⟨RX4, "purpose", "()I"⟩
abbrev cX4_donor : ByteArray := prog_1_method_3_code
def yX4_donor : MethodName := ⟨RX4, "donor", "()I"⟩
abbrev cX4_declare : ByteArray := prog_1_method_4_code
def yX4_declare : MethodName := ⟨RX4, "declare", "(II)I"⟩
abbrev cX4_give : ByteArray := prog_1_method_5_code
def yX4_give : MethodName := ⟨RX4, "give", "(III)I"⟩
abbrev cX4_pledge : ByteArray := prog_1_method_6_code
def yX4_pledge : MethodName := ⟨RX4, "pledge", "(IIII)I"⟩
abbrev cX4_miss : ByteArray := prog_1_method_7_code
def yX4_miss : MethodName := ⟨RX4, "miss", "(I)I"⟩
abbrev cX4_stop : ByteArray := prog_1_method_8_code
def yX4_stop : MethodName := ⟨RX4, "stop", "(I)I"⟩
abbrev cX4_claim : ByteArray := prog_1_method_9_code
def yX4_claim : MethodName := ⟨RX4, "claim", "()I"⟩
abbrev cX4_spend : ByteArray := prog_1_method_10_code
def yX4_spend : MethodName := ⟨RX4, "spend", "(II)I"⟩
abbrev cX4_agree : ByteArray := prog_1_method_11_code
def yX4_agree : MethodName := ⟨RX4, "agree", "(III)I"⟩
abbrev cX4_merge : ByteArray := prog_1_method_12_code
def yX4_merge : MethodName := ⟨RX4, "merge", "(II)I"⟩
abbrev cX4_refund : ByteArray := prog_1_method_13_code
def yX4_refund : MethodName := ⟨RX4, "refund", "(I)I"⟩
abbrev cX4_pass : ByteArray := prog_1_method_14_code
def yX4_pass : MethodName := ⟨RX4, "pass", "(I)I"⟩
abbrev cX4_set : ByteArray := prog_1_method_15_code
def yX4_set : MethodName := ⟨RX4, "set", "(II)I"⟩
abbrev cX4_purposeOf : ByteArray := prog_1_method_16_code
def yX4_purposeOf : MethodName := ⟨RX4, "purposeOf", "(II)I"⟩
abbrev cX4_donorOf : ByteArray := prog_1_method_17_code
def yX4_donorOf : MethodName := ⟨RX4, "donorOf", "(II)I"⟩
abbrev cX4_giftOf : ByteArray := prog_1_method_18_code
def yX4_giftOf : MethodName := ⟨RX4, "giftOf", "(II)I"⟩
abbrev cX4_pledgeOf : ByteArray := prog_1_method_19_code
def yX4_pledgeOf : MethodName := ⟨RX4, "pledgeOf", "(II)I"⟩
abbrev cX4_count : ByteArray := prog_1_method_20_code
def yX4_count : MethodName := ⟨RX4, "count", "(I)I"⟩
abbrev cX4_wouldClaim : ByteArray := prog_1_method_21_code
def yX4_wouldClaim : MethodName := ⟨RX4, "wouldClaim", "(I)I"⟩
abbrev cX4_consents : ByteArray := prog_1_method_22_code
def yX4_consents : MethodName := ⟨RX4, "consents", "(II)I"⟩
abbrev cX4_later : ByteArray := prog_1_method_23_code
def yX4_later : MethodName := ⟨RX4, "later", "(II)I"⟩
abbrev cX4_undo : ByteArray := prog_1_method_24_code
def yX4_undo : MethodName := ⟨RX4, "undo", "()I"⟩
abbrev cX4_type : ByteArray := prog_1_method_25_code
def yX4_type : MethodName := ⟨RX4, "type", "(I)I"⟩
abbrev cX4_clearText : ByteArray := prog_1_method_26_code
def yX4_clearText : MethodName := ⟨RX4, "clearText", "()I"⟩
abbrev cX4_fault : ByteArray := prog_1_method_27_code
def yX4_fault : MethodName := ⟨RX4, "fault", "(I)I"⟩
abbrev cX4_play : ByteArray := prog_1_method_28_code
def yX4_play : MethodName := ⟨RX4, "play", "()I"⟩
abbrev cX4_within : ByteArray := prog_1_method_29_code
def yX4_within : MethodName := ⟨RX4, "within", "(III)Z"⟩
def RX5 : String := "GiftPurposesModel"
def TX5 : u_T := fun k => match k with
  | 0 => ("GiftPurposesModel", "s", "[I", true)
  | 1 => ("GiftPurposesModel", "past", "[I", true)
  | 2 => ("GiftPurposesModel", "held", "[I", true)
  | 3 => ("GiftPurposesModel", "tried", "[I", true)
  | 4 => ("GiftPurposesModel", "pasts", "I", false)
  | 5 => ("GiftPurposesModel", "runs", "Z", false)
  | 6 => ("GiftPurposesModel", "text", "[I", true)
  | 7 => ("GiftPurposesModel", "typed", "I", false)
  | 8 => ("GiftPurposesModel", "words", "[J", true)
  | 9 => ("GiftPurposesModel", "numbers", "[I", true)
  | 10 => ("GiftPurposesModel", "claimed", "I", false)
  | 11 => ("GiftPurposesModel", "spot", "I", false)
  | 12 => ("GiftPurposesModel", "cause", "I", false)
  | 13 => ("GiftPurposesModel", "commands", "I", false)
  | _ => ("GiftPurposesModel", "told", "[I", true)
def tyX5 : Nat → FieldType := fun k => match k with
  | 0 => .array .int
  | 1 => .array .int
  | 2 => .array .int
  | 3 => .array .int
  | 4 => .int
  | 5 => .boolean
  | 6 => .array .int
  | 7 => .int
  | 8 => .array .long
  | 9 => .array .int
  | 10 => .int
  | 11 => .int
  | 12 => .int
  | 13 => .int
  | _ => .array .int
abbrev wsX50 : List Cond := u_ws RX5 TX5 15
theorem nmX5 : ∀ a, a < 15 → ∀ b, b < 15 → a ≠ b → (TX5 a).2.1 ≠ (TX5 b).2.1 := by decide +kernel
theorem tyX5_ok : ∀ k, k < 15 → parseFieldDescriptor (TX5 k).2.2.1 = some (tyX5 k) := by decide +kernel
abbrev cX5_init : ByteArray := prog_7_method_1_code
def yX5_init : MethodName := ⟨RX5, "<init>", "()V"⟩
abbrev cX5_in : ByteArray := prog_7_method_3_code
def yX5_in : MethodName := ⟨RX5, "in", "(III)Z"⟩
abbrev cX5_copies : ByteArray := prog_7_method_4_code
def yX5_copies : MethodName := ⟨RX5, "copies", "([I[I)V"⟩
abbrev cX5_changes : ByteArray := prog_7_method_5_code
def yX5_changes : MethodName := ⟨RX5, "changes", "()V"⟩
abbrev cX5_ofPurpose : ByteArray := prog_7_method_6_code
def yX5_ofPurpose : MethodName := ⟨RX5, "ofPurpose", "(II)I"⟩
abbrev cX5_putsPurpose : ByteArray := prog_7_method_7_code
def yX5_putsPurpose : MethodName := ⟨RX5, "putsPurpose", "(III)V"⟩
abbrev cX5_adds : ByteArray := prog_7_method_8_code
def yX5_adds : MethodName := ⟨RX5, "adds", "(III)V"⟩
abbrev cX5_ofDonor : ByteArray := prog_7_method_9_code
def yX5_ofDonor : MethodName := ⟨RX5, "ofDonor", "(II)I"⟩
abbrev cX5_putsDonor : ByteArray := prog_7_method_10_code
def yX5_putsDonor : MethodName := ⟨RX5, "putsDonor", "(III)V"⟩
abbrev cX5_ofGift : ByteArray := prog_7_method_11_code
def yX5_ofGift : MethodName := ⟨RX5, "ofGift", "(II)I"⟩
abbrev cX5_ofPledge : ByteArray := prog_7_method_12_code
def yX5_ofPledge : MethodName := ⟨RX5, "ofPledge", "(II)I"⟩
abbrev cX5_putsPledge : ByteArray := prog_7_method_13_code
def yX5_putsPledge : MethodName := ⟨RX5, "putsPledge", "(III)V"⟩
abbrev cX5_isPurpose : ByteArray := prog_7_method_14_code
def yX5_isPurpose : MethodName := ⟨RX5, "isPurpose", "(I)Z"⟩
abbrev cX5_isClosed : ByteArray := prog_7_method_15_code
def yX5_isClosed : MethodName := ⟨RX5, "isClosed", "(I)Z"⟩
abbrev cX5_isDonor : ByteArray := prog_7_method_16_code
def yX5_isDonor : MethodName := ⟨RX5, "isDonor", "(I)Z"⟩
abbrev cX5_isPledge : ByteArray := prog_7_method_17_code
def yX5_isPledge : MethodName := ⟨RX5, "isPledge", "(I)Z"⟩
abbrev cX5_home : ByteArray := prog_7_method_18_code
def yX5_home : MethodName := ⟨RX5, "home", "(I)I"⟩
abbrev cX5_purpose : ByteArray := prog_7_method_19_code
def yX5_purpose : MethodName := ⟨RX5, "purpose", "()I"⟩
abbrev cX5_donor : ByteArray := prog_7_method_20_code
def yX5_donor : MethodName := ⟨RX5, "donor", "()I"⟩
abbrev cX5_declare : ByteArray := prog_7_method_21_code
def yX5_declare : MethodName := ⟨RX5, "declare", "(II)I"⟩
abbrev cX5_gives : ByteArray := prog_7_method_22_code
def yX5_gives : MethodName := ⟨RX5, "gives", "(IIII)I"⟩
abbrev cX5_give : ByteArray := prog_7_method_23_code
def yX5_give : MethodName := ⟨RX5, "give", "(III)I"⟩
abbrev cX5_pledge : ByteArray := prog_7_method_24_code
def yX5_pledge : MethodName := ⟨RX5, "pledge", "(IIII)I"⟩
abbrev cX5_miss : ByteArray := prog_7_method_25_code
def yX5_miss : MethodName := ⟨RX5, "miss", "(I)I"⟩
abbrev cX5_ends : ByteArray := prog_7_method_26_code
def yX5_ends : MethodName := ⟨RX5, "ends", "(II)V"⟩
abbrev cX5_stop : ByteArray := prog_7_method_27_code
def yX5_stop : MethodName := ⟨RX5, "stop", "(I)I"⟩
abbrev cX5_tax : ByteArray := prog_7_method_28_code
def yX5_tax : MethodName := ⟨RX5, "tax", "(I)I"⟩
abbrev cX5_canClaim : ByteArray := prog_7_method_29_code
def yX5_canClaim : MethodName := ⟨RX5, "canClaim", "(I)Z"⟩
abbrev cX5_claims : ByteArray := prog_7_method_30_code
def yX5_claims : MethodName := ⟨RX5, "claims", "(I)I"⟩
abbrev cX5_wouldClaim : ByteArray := prog_7_method_31_code
def yX5_wouldClaim : MethodName := ⟨RX5, "wouldClaim", "(I)I"⟩
abbrev cX5_claim : ByteArray := prog_7_method_32_code
def yX5_claim : MethodName := ⟨RX5, "claim", "()I"⟩
abbrev cX5_spend : ByteArray := prog_7_method_33_code
def yX5_spend : MethodName := ⟨RX5, "spend", "(II)I"⟩
abbrev cX5_weight : ByteArray := prog_7_method_34_code
def yX5_weight : MethodName := ⟨RX5, "weight", "(II)I"⟩
abbrev cX5_weights : ByteArray := prog_7_method_35_code
def yX5_weights : MethodName := ⟨RX5, "weights", "(II)I"⟩
abbrev cX5_areTwo : ByteArray := prog_7_method_36_code
def yX5_areTwo : MethodName := ⟨RX5, "areTwo", "(II)Z"⟩
abbrev cX5_agree : ByteArray := prog_7_method_37_code
def yX5_agree : MethodName := ⟨RX5, "agree", "(III)I"⟩
abbrev cX5_merge : ByteArray := prog_7_method_38_code
def yX5_merge : MethodName := ⟨RX5, "merge", "(II)I"⟩
abbrev cX5_refund : ByteArray := prog_7_method_39_code
def yX5_refund : MethodName := ⟨RX5, "refund", "(I)I"⟩
abbrev cX5_month : ByteArray := prog_7_method_40_code
def yX5_month : MethodName := ⟨RX5, "month", "(I)I"⟩
abbrev cX5_goes : ByteArray := prog_7_method_41_code
def yX5_goes : MethodName := ⟨RX5, "goes", "(I)I"⟩
abbrev cX5_pass : ByteArray := prog_7_method_42_code
def yX5_pass : MethodName := ⟨RX5, "pass", "(I)I"⟩
abbrev cX5_set : ByteArray := prog_7_method_43_code
def yX5_set : MethodName := ⟨RX5, "set", "(II)I"⟩
abbrev cX5_purposeOf : ByteArray := prog_7_method_44_code
def yX5_purposeOf : MethodName := ⟨RX5, "purposeOf", "(II)I"⟩
abbrev cX5_given : ByteArray := prog_7_method_45_code
def yX5_given : MethodName := ⟨RX5, "given", "(II)I"⟩
abbrev cX5_running : ByteArray := prog_7_method_46_code
def yX5_running : MethodName := ⟨RX5, "running", "(I)I"⟩
abbrev cX5_donorOf : ByteArray := prog_7_method_47_code
def yX5_donorOf : MethodName := ⟨RX5, "donorOf", "(II)I"⟩
abbrev cX5_giftOf : ByteArray := prog_7_method_48_code
def yX5_giftOf : MethodName := ⟨RX5, "giftOf", "(II)I"⟩
abbrev cX5_pledgeOf : ByteArray := prog_7_method_49_code
def yX5_pledgeOf : MethodName := ⟨RX5, "pledgeOf", "(II)I"⟩
abbrev cX5_all : ByteArray := prog_7_method_50_code
def yX5_all : MethodName := ⟨RX5, "all", "(I)I"⟩
abbrev cX5_count : ByteArray := prog_7_method_51_code
def yX5_count : MethodName := ⟨RX5, "count", "(I)I"⟩
abbrev cX5_consents : ByteArray := prog_7_method_52_code
def yX5_consents : MethodName := ⟨RX5, "consents", "(II)I"⟩
abbrev cX5_later : ByteArray := prog_7_method_53_code
def yX5_later : MethodName := ⟨RX5, "later", "(II)I"⟩
abbrev cX5_undo : ByteArray := prog_7_method_54_code
def yX5_undo : MethodName := ⟨RX5, "undo", "()I"⟩
abbrev cX5_type : ByteArray := prog_7_method_55_code
def yX5_type : MethodName := ⟨RX5, "type", "(I)I"⟩
abbrev cX5_clearText : ByteArray := prog_7_method_56_code
def yX5_clearText : MethodName := ⟨RX5, "clearText", "()I"⟩
abbrev cX5_isAt : ByteArray := prog_7_method_57_code
def yX5_isAt : MethodName := ⟨RX5, "isAt", "(II)Z"⟩
abbrev cX5_passes : ByteArray := prog_7_method_58_code
def yX5_passes : MethodName := ⟨RX5, "passes", "(I)Z"⟩
abbrev cX5_word : ByteArray := prog_7_method_59_code
def yX5_word : MethodName := ⟨RX5, "word", "()I"⟩
abbrev cX5_number : ByteArray := prog_7_method_60_code
def yX5_number : MethodName := ⟨RX5, "number", "(I)Z"⟩
abbrev cX5_reads : ByteArray := prog_7_method_61_code
def yX5_reads : MethodName := ⟨RX5, "reads", "()I"⟩
abbrev cX5_calls : ByteArray := prog_7_method_62_code
def yX5_calls : MethodName := ⟨RX5, "calls", "(I)I"⟩
abbrev cX5_plays : ByteArray := prog_7_method_63_code
def yX5_plays : MethodName := ⟨RX5, "plays", "()I"⟩
abbrev cX5_fault : ByteArray := prog_7_method_64_code
def yX5_fault : MethodName := ⟨RX5, "fault", "(I)I"⟩
abbrev cX5_play : ByteArray := prog_7_method_65_code
def yX5_play : MethodName := ⟨RX5, "play", "()I"⟩
def RJ9 : String := "java/lang/Math"
def TJ9 : u_T := fun k => match k with
  | _ => ("", "", "", false)
def tyJ9 : Nat → FieldType := fun k => match k with
  | _ => .int
abbrev wsJ90 : List Cond := u_ws RJ9 TJ9 0
theorem nmJ9 : ∀ a, a < 0 → ∀ b, b < 0 → a ≠ b → (TJ9 a).2.1 ≠ (TJ9 b).2.1 := by decide +kernel
theorem tyJ9_ok : ∀ k, k < 0 → parseFieldDescriptor (TJ9 k).2.2.1 = some (tyJ9 k) := by decide +kernel
abbrev cJ9_max_7cf53 : ByteArray := prog_8_method_65_code
def yJ9_max_7cf53 : MethodName := ⟨RJ9, "max", "(II)I"⟩
abbrev cJ9_min_7cf53 : ByteArray := prog_8_method_69_code
def yJ9_min_7cf53 : MethodName := ⟨RJ9, "min", "(II)I"⟩
def RJ0 : String := "java/lang/String"
def TJ0 : u_T := fun k => match k with
  | _ => ("", "", "", false)
def tyJ0 : Nat → FieldType := fun k => match k with
  | _ => .int
abbrev wsJ00 : List Cond := u_ws RJ0 TJ0 0
theorem nmJ0 : ∀ a, a < 0 → ∀ b, b < 0 → a ≠ b → (TJ0 a).2.1 ≠ (TJ0 b).2.1 := by decide +kernel
theorem tyJ0_ok : ∀ k, k < 0 → parseFieldDescriptor (TJ0 k).2.2.1 = some (tyJ0 k) := by decide +kernel
abbrev cJ0_length_8abf5 : ByteArray := prog_9_method_54_code
def yJ0_length_8abf5 : MethodName := ⟨RJ0, "length", "()I"⟩
abbrev cJ0_charAt_5068e : ByteArray := prog_9_method_56_code
def yJ0_charAt_5068e : MethodName := ⟨RJ0, "charAt", "(I)C"⟩
abbrev cJ0_coder_7d493 : ByteArray := prog_9_method_152_code
def yJ0_coder_7d493 : MethodName := ⟨RJ0, "coder", "()B"⟩
abbrev cJ0_isLatin1_aae02 : ByteArray := prog_9_method_154_code
def yJ0_isLatin1_aae02 : MethodName := ⟨RJ0, "isLatin1", "()Z"⟩
abbrev cJ0_checkIndex_df160 : ByteArray := prog_9_method_155_code
def yJ0_checkIndex_df160 : MethodName := ⟨RJ0, "checkIndex", "(II)V"⟩
def RJ1 : String := "java/lang/StringLatin1"
def TJ1 : u_T := fun k => match k with
  | _ => ("", "", "", false)
def tyJ1 : Nat → FieldType := fun k => match k with
  | _ => .int
abbrev wsJ10 : List Cond := u_ws RJ1 TJ1 0
theorem nmJ1 : ∀ a, a < 0 → ∀ b, b < 0 → a ≠ b → (TJ1 a).2.1 ≠ (TJ1 b).2.1 := by decide +kernel
theorem tyJ1_ok : ∀ k, k < 0 → parseFieldDescriptor (TJ1 k).2.2.1 = some (tyJ1 k) := by decide +kernel
abbrev cJ1_charAt_3b067 : ByteArray := prog_10_method_2_code
def yJ1_charAt_3b067 : MethodName := ⟨RJ1, "charAt", "([BI)C"⟩
def RJ2 : String := "java/lang/StringUTF16"
def TJ2 : u_T := fun k => match k with
  | _ => ("", "", "", false)
def tyJ2 : Nat → FieldType := fun k => match k with
  | _ => .int
abbrev wsJ20 : List Cond := u_ws RJ2 TJ2 0
theorem nmJ2 : ∀ a, a < 0 → ∀ b, b < 0 → a ≠ b → (TJ2 a).2.1 ≠ (TJ2 b).2.1 := by decide +kernel
theorem tyJ2_ok : ∀ k, k < 0 → parseFieldDescriptor (TJ2 k).2.2.1 = some (tyJ2 k) := by decide +kernel
abbrev cJ2_getChar_3b067 : ByteArray := prog_11_method_5_code
def yJ2_getChar_3b067 : MethodName := ⟨RJ2, "getChar", "([BI)C"⟩
abbrev cJ2_length_9d52b : ByteArray := prog_11_method_6_code
def yJ2_length_9d52b : MethodName := ⟨RJ2, "length", "([B)I"⟩
abbrev cJ2_charAt_3b067 : ByteArray := prog_11_method_83_code
def yJ2_charAt_3b067 : MethodName := ⟨RJ2, "charAt", "([BI)C"⟩
abbrev cJ2_checkIndex_2214a : ByteArray := prog_11_method_91_code
def yJ2_checkIndex_2214a : MethodName := ⟨RJ2, "checkIndex", "(I[B)V"⟩
def RJ10 : String := "java/lang/System"
def TJ10 : u_T := fun k => match k with
  | _ => ("", "", "", false)
def tyJ10 : Nat → FieldType := fun k => match k with
  | _ => .int
abbrev wsJ100 : List Cond := u_ws RJ10 TJ10 0
theorem nmJ10 : ∀ a, a < 0 → ∀ b, b < 0 → a ≠ b → (TJ10 a).2.1 ≠ (TJ10 b).2.1 := by decide +kernel
theorem tyJ10_ok : ∀ k, k < 0 → parseFieldDescriptor (TJ10 k).2.2.1 = some (tyJ10 k) := by decide +kernel
def RJ3 : String := "jdk/internal/util/Preconditions"
def TJ3 : u_T := fun k => match k with
  | _ => ("", "", "", false)
def tyJ3 : Nat → FieldType := fun k => match k with
  | _ => .int
abbrev wsJ30 : List Cond := u_ws RJ3 TJ3 0
theorem nmJ3 : ∀ a, a < 0 → ∀ b, b < 0 → a ≠ b → (TJ3 a).2.1 ≠ (TJ3 b).2.1 := by decide +kernel
theorem tyJ3_ok : ∀ k, k < 0 → parseFieldDescriptor (TJ3 k).2.2.1 = some (tyJ3 k) := by decide +kernel
abbrev cJ3_checkIndex_8e157 : ByteArray := prog_13_method_11_code
def yJ3_checkIndex_8e157 : MethodName := ⟨RJ3, "checkIndex", "(IILjava/util/function/BiFunction;)I"⟩
def RL : String := "GiftPurposesLaw"
abbrev cL_law : ByteArray := code
def yL_law : MethodName := ⟨RL, "law", "([I)Z"⟩
abbrev vwCl : List vw_C := [(RX0, TX0, 5), (RX1, TX1, 3), (RX2, TX2, 7), (RX3, TX3, 4), (RX4, TX4, 4), (RX5, TX5, 15)]
end
section
theorem dX0_init_0 : decode cX0_init 0 = .ok (.aload_n 0, 1) := by decide +kernel
theorem dX0_init_1 : decode cX0_init 1 = .ok (.invokespecial 5, 3) := by decide +kernel
theorem dX0_init_4 : decode cX0_init 4 = .ok (.aload_n 0, 1) := by decide +kernel
theorem dX0_init_5 : decode cX0_init 5 = .ok (.aload_n 1, 1) := by decide +kernel
theorem dX0_init_6 : decode cX0_init 6 = .ok (.putfield 11, 3) := by decide +kernel
theorem dX0_init_9 : decode cX0_init 9 = .ok (.aload_n 0, 1) := by decide +kernel
theorem dX0_init_10 : decode cX0_init 10 = .ok (.new 15, 3) := by decide +kernel
theorem dX0_init_13 : decode cX0_init 13 = .ok (.dup, 1) := by decide +kernel
theorem dX0_init_14 : decode cX0_init 14 = .ok (.aload_n 1, 1) := by decide +kernel
theorem dX0_init_15 : decode cX0_init 15 = .ok (.iconst 3, 1) := by decide +kernel
theorem dX0_init_16 : decode cX0_init 16 = .ok (.bipush 6, 2) := by decide +kernel
theorem dX0_init_18 : decode cX0_init 18 = .ok (.bipush 12, 2) := by decide +kernel
theorem dX0_init_20 : decode cX0_init 20 = .ok (.invokespecial 17, 3) := by decide +kernel
theorem dX0_init_23 : decode cX0_init 23 = .ok (.putfield 20, 3) := by decide +kernel
theorem dX0_init_26 : decode cX0_init 26 = .ok (.aload_n 0, 1) := by decide +kernel
theorem dX0_init_27 : decode cX0_init 27 = .ok (.new 15, 3) := by decide +kernel
theorem dX0_init_30 : decode cX0_init 30 = .ok (.dup, 1) := by decide +kernel
theorem dX0_init_31 : decode cX0_init 31 = .ok (.aload_n 1, 1) := by decide +kernel
theorem dX0_init_32 : decode cX0_init 32 = .ok (.bipush 76, 2) := by decide +kernel
theorem dX0_init_34 : decode cX0_init 34 = .ok (.bipush 8, 2) := by decide +kernel
theorem dX0_init_36 : decode cX0_init 36 = .ok (.bipush 7, 2) := by decide +kernel
theorem dX0_init_38 : decode cX0_init 38 = .ok (.invokespecial 17, 3) := by decide +kernel
theorem dX0_init_41 : decode cX0_init 41 = .ok (.putfield 24, 3) := by decide +kernel
theorem dX0_init_44 : decode cX0_init 44 = .ok (.aload_n 0, 1) := by decide +kernel
theorem dX0_init_45 : decode cX0_init 45 = .ok (.new 15, 3) := by decide +kernel
theorem dX0_init_48 : decode cX0_init 48 = .ok (.dup, 1) := by decide +kernel
theorem dX0_init_49 : decode cX0_init 49 = .ok (.aload_n 1, 1) := by decide +kernel
theorem dX0_init_50 : decode cX0_init 50 = .ok (.sipush 133, 3) := by decide +kernel
theorem dX0_init_53 : decode cX0_init 53 = .ok (.bipush 24, 2) := by decide +kernel
theorem dX0_init_55 : decode cX0_init 55 = .ok (.bipush 7, 2) := by decide +kernel
theorem dX0_init_57 : decode cX0_init 57 = .ok (.invokespecial 17, 3) := by decide +kernel
theorem dX0_init_60 : decode cX0_init 60 = .ok (.putfield 27, 3) := by decide +kernel
theorem dX0_init_63 : decode cX0_init 63 = .ok (.aload_n 0, 1) := by decide +kernel
theorem dX0_init_64 : decode cX0_init 64 = .ok (.new 15, 3) := by decide +kernel
theorem dX0_init_67 : decode cX0_init 67 = .ok (.dup, 1) := by decide +kernel
theorem dX0_init_68 : decode cX0_init 68 = .ok (.aload_n 1, 1) := by decide +kernel
theorem dX0_init_69 : decode cX0_init 69 = .ok (.sipush 302, 3) := by decide +kernel
theorem dX0_init_72 : decode cX0_init 72 = .ok (.bipush 6, 2) := by decide +kernel
theorem dX0_init_74 : decode cX0_init 74 = .ok (.bipush 8, 2) := by decide +kernel
theorem dX0_init_76 : decode cX0_init 76 = .ok (.invokespecial 17, 3) := by decide +kernel
theorem dX0_init_79 : decode cX0_init 79 = .ok (.putfield 30, 3) := by decide +kernel
theorem dX0_init_82 : decode cX0_init 82 = .ok (.aload_n 1, 1) := by decide +kernel
theorem dX0_init_83 : decode cX0_init 83 = .ok (.iconst 1, 1) := by decide +kernel
theorem dX0_init_84 : decode cX0_init 84 = .ok (.bipush 60, 2) := by decide +kernel
theorem dX0_init_86 : decode cX0_init 86 = .ok (.iastore, 1) := by decide +kernel
theorem dX0_init_87 : decode cX0_init 87 = .ok (.aload_n 1, 1) := by decide +kernel
theorem dX0_init_88 : decode cX0_init 88 = .ok (.iconst 2, 1) := by decide +kernel
theorem dX0_init_89 : decode cX0_init 89 = .ok (.sipush 5000, 3) := by decide +kernel
theorem dX0_init_92 : decode cX0_init 92 = .ok (.iastore, 1) := by decide +kernel
theorem dX0_init_93 : decode cX0_init 93 = .ok (.aload_n 0, 1) := by decide +kernel
theorem dX0_init_94 : decode cX0_init 94 = .ok (.invokevirtual 33, 3) := by decide +kernel
theorem dX0_init_97 : decode cX0_init 97 = .ok (.pop, 1) := by decide +kernel
theorem dX0_init_98 : decode cX0_init 98 = .ok (.return_, 1) := by decide +kernel
theorem dX0_copyFrom_0 : decode cX0_copyFrom 0 = .ok (.aload_n 1, 1) := by decide +kernel
theorem dX0_copyFrom_1 : decode cX0_copyFrom 1 = .ok (.getfield 11, 3) := by decide +kernel
theorem dX0_copyFrom_4 : decode cX0_copyFrom 4 = .ok (.iconst 0, 1) := by decide +kernel
theorem dX0_copyFrom_5 : decode cX0_copyFrom 5 = .ok (.aload_n 0, 1) := by decide +kernel
theorem dX0_copyFrom_6 : decode cX0_copyFrom 6 = .ok (.getfield 11, 3) := by decide +kernel
theorem dX0_copyFrom_9 : decode cX0_copyFrom 9 = .ok (.iconst 0, 1) := by decide +kernel
theorem dX0_copyFrom_10 : decode cX0_copyFrom 10 = .ok (.sipush 351, 3) := by decide +kernel
theorem dX0_copyFrom_13 : decode cX0_copyFrom 13 = .ok (.invokestatic 37, 3) := by decide +kernel
theorem dX0_copyFrom_16 : decode cX0_copyFrom 16 = .ok (.return_, 1) := by decide +kernel
theorem dX0_saveTo_0 : decode cX0_saveTo 0 = .ok (.aload_n 0, 1) := by decide +kernel
theorem dX0_saveTo_1 : decode cX0_saveTo 1 = .ok (.getfield 11, 3) := by decide +kernel
theorem dX0_saveTo_4 : decode cX0_saveTo 4 = .ok (.iconst 0, 1) := by decide +kernel
theorem dX0_saveTo_5 : decode cX0_saveTo 5 = .ok (.aload_n 1, 1) := by decide +kernel
theorem dX0_saveTo_6 : decode cX0_saveTo 6 = .ok (.iconst 0, 1) := by decide +kernel
theorem dX0_saveTo_7 : decode cX0_saveTo 7 = .ok (.sipush 351, 3) := by decide +kernel
theorem dX0_saveTo_10 : decode cX0_saveTo 10 = .ok (.invokestatic 37, 3) := by decide +kernel
theorem dX0_saveTo_13 : decode cX0_saveTo 13 = .ok (.return_, 1) := by decide +kernel
theorem dX0_loadFrom_0 : decode cX0_loadFrom 0 = .ok (.aload_n 1, 1) := by decide +kernel
theorem dX0_loadFrom_1 : decode cX0_loadFrom 1 = .ok (.iconst 0, 1) := by decide +kernel
theorem dX0_loadFrom_2 : decode cX0_loadFrom 2 = .ok (.aload_n 0, 1) := by decide +kernel
theorem dX0_loadFrom_3 : decode cX0_loadFrom 3 = .ok (.getfield 11, 3) := by decide +kernel
theorem dX0_loadFrom_6 : decode cX0_loadFrom 6 = .ok (.iconst 0, 1) := by decide +kernel
theorem dX0_loadFrom_7 : decode cX0_loadFrom 7 = .ok (.sipush 351, 3) := by decide +kernel
theorem dX0_loadFrom_10 : decode cX0_loadFrom 10 = .ok (.invokestatic 37, 3) := by decide +kernel
theorem dX0_loadFrom_13 : decode cX0_loadFrom 13 = .ok (.return_, 1) := by decide +kernel
theorem dX0_addPurpose_0 : decode cX0_addPurpose 0 = .ok (.aload_n 0, 1) := by decide +kernel
theorem dX0_addPurpose_1 : decode cX0_addPurpose 1 = .ok (.getfield 20, 3) := by decide +kernel
theorem dX0_addPurpose_4 : decode cX0_addPurpose 4 = .ok (.invokevirtual 43, 3) := by decide +kernel
theorem dX0_addPurpose_7 : decode cX0_addPurpose 7 = .ok (.istore_n 1, 1) := by decide +kernel
theorem dX0_addPurpose_8 : decode cX0_addPurpose 8 = .ok (.iload_n 1, 1) := by decide +kernel
theorem dX0_addPurpose_9 : decode cX0_addPurpose 9 = .ok (.iconst (-1), 1) := by decide +kernel
theorem dX0_addPurpose_10 : decode cX0_addPurpose 10 = .ok (.if_icmp .ne 6, 3) := by decide +kernel
theorem dX0_addPurpose_13 : decode cX0_addPurpose 13 = .ok (.bipush (-3), 2) := by decide +kernel
theorem dX0_addPurpose_15 : decode cX0_addPurpose 15 = .ok (.ireturn, 1) := by decide +kernel
theorem dX0_addPurpose_16 : decode cX0_addPurpose 16 = .ok (.aload_n 0, 1) := by decide +kernel
theorem dX0_addPurpose_17 : decode cX0_addPurpose 17 = .ok (.getfield 20, 3) := by decide +kernel
theorem dX0_addPurpose_20 : decode cX0_addPurpose 20 = .ok (.iload_n 1, 1) := by decide +kernel
theorem dX0_addPurpose_21 : decode cX0_addPurpose 21 = .ok (.bipush 9, 2) := by decide +kernel
theorem dX0_addPurpose_23 : decode cX0_addPurpose 23 = .ok (.iconst (-1), 1) := by decide +kernel
theorem dX0_addPurpose_24 : decode cX0_addPurpose 24 = .ok (.invokevirtual 46, 3) := by decide +kernel
theorem dX0_addPurpose_27 : decode cX0_addPurpose 27 = .ok (.aload_n 0, 1) := by decide +kernel
theorem dX0_addPurpose_28 : decode cX0_addPurpose 28 = .ok (.getfield 20, 3) := by decide +kernel
theorem dX0_addPurpose_31 : decode cX0_addPurpose 31 = .ok (.iload_n 1, 1) := by decide +kernel
theorem dX0_addPurpose_32 : decode cX0_addPurpose 32 = .ok (.bipush 10, 2) := by decide +kernel
theorem dX0_addPurpose_34 : decode cX0_addPurpose 34 = .ok (.iload_n 1, 1) := by decide +kernel
theorem dX0_addPurpose_35 : decode cX0_addPurpose 35 = .ok (.invokevirtual 46, 3) := by decide +kernel
theorem dX0_addPurpose_38 : decode cX0_addPurpose 38 = .ok (.iload_n 1, 1) := by decide +kernel
theorem dX0_addPurpose_39 : decode cX0_addPurpose 39 = .ok (.ireturn, 1) := by decide +kernel
theorem dX0_addDonor_0 : decode cX0_addDonor 0 = .ok (.aload_n 0, 1) := by decide +kernel
theorem dX0_addDonor_1 : decode cX0_addDonor 1 = .ok (.getfield 24, 3) := by decide +kernel
theorem dX0_addDonor_4 : decode cX0_addDonor 4 = .ok (.invokevirtual 43, 3) := by decide +kernel
theorem dX0_addDonor_7 : decode cX0_addDonor 7 = .ok (.istore_n 1, 1) := by decide +kernel
theorem dX0_addDonor_8 : decode cX0_addDonor 8 = .ok (.iload_n 1, 1) := by decide +kernel
theorem dX0_addDonor_9 : decode cX0_addDonor 9 = .ok (.iconst (-1), 1) := by decide +kernel
theorem dX0_addDonor_10 : decode cX0_addDonor 10 = .ok (.if_icmp .ne 6, 3) := by decide +kernel
theorem dX0_addDonor_13 : decode cX0_addDonor 13 = .ok (.bipush (-3), 2) := by decide +kernel
theorem dX0_addDonor_15 : decode cX0_addDonor 15 = .ok (.ireturn, 1) := by decide +kernel
theorem dX0_addDonor_16 : decode cX0_addDonor 16 = .ok (.iconst 0, 1) := by decide +kernel
theorem dX0_addDonor_17 : decode cX0_addDonor 17 = .ok (.istore_n 2, 1) := by decide +kernel
theorem dX0_addDonor_18 : decode cX0_addDonor 18 = .ok (.iload_n 2, 1) := by decide +kernel
theorem dX0_addDonor_19 : decode cX0_addDonor 19 = .ok (.bipush 6, 2) := by decide +kernel
theorem dX0_addDonor_21 : decode cX0_addDonor 21 = .ok (.if_icmp .ge 21, 3) := by decide +kernel
theorem dX0_addDonor_24 : decode cX0_addDonor 24 = .ok (.aload_n 0, 1) := by decide +kernel
theorem dX0_addDonor_25 : decode cX0_addDonor 25 = .ok (.getfield 24, 3) := by decide +kernel
theorem dX0_addDonor_28 : decode cX0_addDonor 28 = .ok (.iload_n 1, 1) := by decide +kernel
theorem dX0_addDonor_29 : decode cX0_addDonor 29 = .ok (.iconst 1, 1) := by decide +kernel
theorem dX0_addDonor_30 : decode cX0_addDonor 30 = .ok (.iload_n 2, 1) := by decide +kernel
theorem dX0_addDonor_31 : decode cX0_addDonor 31 = .ok (.iadd, 1) := by decide +kernel
theorem dX0_addDonor_32 : decode cX0_addDonor 32 = .ok (.iconst (-1), 1) := by decide +kernel
theorem dX0_addDonor_33 : decode cX0_addDonor 33 = .ok (.invokevirtual 46, 3) := by decide +kernel
theorem dX0_addDonor_36 : decode cX0_addDonor 36 = .ok (.iinc 2 1, 3) := by decide +kernel
theorem dX0_addDonor_39 : decode cX0_addDonor 39 = .ok (.goto (-21), 3) := by decide +kernel
theorem dX0_addDonor_42 : decode cX0_addDonor 42 = .ok (.iload_n 1, 1) := by decide +kernel
theorem dX0_addDonor_43 : decode cX0_addDonor 43 = .ok (.ireturn, 1) := by decide +kernel
theorem dX0_letDeclare_0 : decode cX0_letDeclare 0 = .ok (.aload_n 0, 1) := by decide +kernel
theorem dX0_letDeclare_1 : decode cX0_letDeclare 1 = .ok (.getfield 24, 3) := by decide +kernel
theorem dX0_letDeclare_4 : decode cX0_letDeclare 4 = .ok (.iload_n 1, 1) := by decide +kernel
theorem dX0_letDeclare_5 : decode cX0_letDeclare 5 = .ok (.invokevirtual 50, 3) := by decide +kernel
theorem dX0_letDeclare_8 : decode cX0_letDeclare 8 = .ok (.ifCond .eq 12, 3) := by decide +kernel
theorem dX0_letDeclare_11 : decode cX0_letDeclare 11 = .ok (.iload_n 2, 1) := by decide +kernel
theorem dX0_letDeclare_12 : decode cX0_letDeclare 12 = .ok (.iconst 0, 1) := by decide +kernel
theorem dX0_letDeclare_13 : decode cX0_letDeclare 13 = .ok (.iconst 1, 1) := by decide +kernel
theorem dX0_letDeclare_14 : decode cX0_letDeclare 14 = .ok (.invokestatic 54, 3) := by decide +kernel
theorem dX0_letDeclare_17 : decode cX0_letDeclare 17 = .ok (.ifCond .ne 5, 3) := by decide +kernel
theorem dX0_letDeclare_20 : decode cX0_letDeclare 20 = .ok (.iconst (-1), 1) := by decide +kernel
theorem dX0_letDeclare_21 : decode cX0_letDeclare 21 = .ok (.ireturn, 1) := by decide +kernel
theorem dX0_letDeclare_22 : decode cX0_letDeclare 22 = .ok (.aload_n 0, 1) := by decide +kernel
theorem dX0_letDeclare_23 : decode cX0_letDeclare 23 = .ok (.getfield 24, 3) := by decide +kernel
theorem dX0_letDeclare_26 : decode cX0_letDeclare 26 = .ok (.iload_n 1, 1) := by decide +kernel
theorem dX0_letDeclare_27 : decode cX0_letDeclare 27 = .ok (.iconst 0, 1) := by decide +kernel
theorem dX0_letDeclare_28 : decode cX0_letDeclare 28 = .ok (.invokevirtual 58, 3) := by decide +kernel
theorem dX0_letDeclare_31 : decode cX0_letDeclare 31 = .ok (.istore_n 3, 1) := by decide +kernel
theorem dX0_letDeclare_32 : decode cX0_letDeclare 32 = .ok (.aload_n 0, 1) := by decide +kernel
theorem dX0_letDeclare_33 : decode cX0_letDeclare 33 = .ok (.getfield 24, 3) := by decide +kernel
theorem dX0_letDeclare_36 : decode cX0_letDeclare 36 = .ok (.iload_n 1, 1) := by decide +kernel
theorem dX0_letDeclare_37 : decode cX0_letDeclare 37 = .ok (.iconst 0, 1) := by decide +kernel
theorem dX0_letDeclare_38 : decode cX0_letDeclare 38 = .ok (.iload_n 2, 1) := by decide +kernel
theorem dX0_letDeclare_39 : decode cX0_letDeclare 39 = .ok (.invokevirtual 46, 3) := by decide +kernel
theorem dX0_letDeclare_42 : decode cX0_letDeclare 42 = .ok (.iload_n 3, 1) := by decide +kernel
theorem dX0_letDeclare_43 : decode cX0_letDeclare 43 = .ok (.ireturn, 1) := by decide +kernel
theorem dX0_hasPurpose_0 : decode cX0_hasPurpose 0 = .ok (.aload_n 0, 1) := by decide +kernel
theorem dX0_hasPurpose_1 : decode cX0_hasPurpose 1 = .ok (.getfield 20, 3) := by decide +kernel
theorem dX0_hasPurpose_4 : decode cX0_hasPurpose 4 = .ok (.iload_n 1, 1) := by decide +kernel
theorem dX0_hasPurpose_5 : decode cX0_hasPurpose 5 = .ok (.invokevirtual 50, 3) := by decide +kernel
theorem dX0_hasPurpose_8 : decode cX0_hasPurpose 8 = .ok (.ireturn, 1) := by decide +kernel
theorem dX0_hasDonor_0 : decode cX0_hasDonor 0 = .ok (.aload_n 0, 1) := by decide +kernel
theorem dX0_hasDonor_1 : decode cX0_hasDonor 1 = .ok (.getfield 24, 3) := by decide +kernel
theorem dX0_hasDonor_4 : decode cX0_hasDonor 4 = .ok (.iload_n 1, 1) := by decide +kernel
theorem dX0_hasDonor_5 : decode cX0_hasDonor 5 = .ok (.invokevirtual 50, 3) := by decide +kernel
theorem dX0_hasDonor_8 : decode cX0_hasDonor 8 = .ok (.ireturn, 1) := by decide +kernel
theorem dX0_isClosed_0 : decode cX0_isClosed 0 = .ok (.aload_n 0, 1) := by decide +kernel
theorem dX0_isClosed_1 : decode cX0_isClosed 1 = .ok (.getfield 20, 3) := by decide +kernel
theorem dX0_isClosed_4 : decode cX0_isClosed 4 = .ok (.iload_n 1, 1) := by decide +kernel
theorem dX0_isClosed_5 : decode cX0_isClosed 5 = .ok (.bipush 9, 2) := by decide +kernel
theorem dX0_isClosed_7 : decode cX0_isClosed 7 = .ok (.invokevirtual 58, 3) := by decide +kernel
theorem dX0_isClosed_10 : decode cX0_isClosed 10 = .ok (.iconst (-1), 1) := by decide +kernel
theorem dX0_isClosed_11 : decode cX0_isClosed 11 = .ok (.if_icmp .eq 7, 3) := by decide +kernel
theorem dX0_isClosed_14 : decode cX0_isClosed 14 = .ok (.iconst 1, 1) := by decide +kernel
theorem dX0_isClosed_15 : decode cX0_isClosed 15 = .ok (.goto 4, 3) := by decide +kernel
theorem dX0_isClosed_18 : decode cX0_isClosed 18 = .ok (.iconst 0, 1) := by decide +kernel
theorem dX0_isClosed_19 : decode cX0_isClosed 19 = .ok (.ireturn, 1) := by decide +kernel
theorem dX0_fundOf_0 : decode cX0_fundOf 0 = .ok (.aload_n 0, 1) := by decide +kernel
theorem dX0_fundOf_1 : decode cX0_fundOf 1 = .ok (.getfield 20, 3) := by decide +kernel
theorem dX0_fundOf_4 : decode cX0_fundOf 4 = .ok (.iload_n 1, 1) := by decide +kernel
theorem dX0_fundOf_5 : decode cX0_fundOf 5 = .ok (.iconst 0, 1) := by decide +kernel
theorem dX0_fundOf_6 : decode cX0_fundOf 6 = .ok (.invokevirtual 58, 3) := by decide +kernel
theorem dX0_fundOf_9 : decode cX0_fundOf 9 = .ok (.ireturn, 1) := by decide +kernel
theorem dX0_addGift_0 : decode cX0_addGift 0 = .ok (.aload_n 0, 1) := by decide +kernel
theorem dX0_addGift_1 : decode cX0_addGift 1 = .ok (.getfield 24, 3) := by decide +kernel
theorem dX0_addGift_4 : decode cX0_addGift 4 = .ok (.iload_n 1, 1) := by decide +kernel
theorem dX0_addGift_5 : decode cX0_addGift 5 = .ok (.invokevirtual 50, 3) := by decide +kernel
theorem dX0_addGift_8 : decode cX0_addGift 8 = .ok (.ifCond .eq 25, 3) := by decide +kernel
theorem dX0_addGift_11 : decode cX0_addGift 11 = .ok (.aload_n 0, 1) := by decide +kernel
theorem dX0_addGift_12 : decode cX0_addGift 12 = .ok (.getfield 20, 3) := by decide +kernel
theorem dX0_addGift_15 : decode cX0_addGift 15 = .ok (.iload_n 2, 1) := by decide +kernel
theorem dX0_addGift_16 : decode cX0_addGift 16 = .ok (.invokevirtual 50, 3) := by decide +kernel
theorem dX0_addGift_19 : decode cX0_addGift 19 = .ok (.ifCond .eq 14, 3) := by decide +kernel
theorem dX0_addGift_22 : decode cX0_addGift 22 = .ok (.iload_n 3, 1) := by decide +kernel
theorem dX0_addGift_23 : decode cX0_addGift 23 = .ok (.iconst 1, 1) := by decide +kernel
theorem dX0_addGift_24 : decode cX0_addGift 24 = .ok (.sipush 9999, 3) := by decide +kernel
theorem dX0_addGift_27 : decode cX0_addGift 27 = .ok (.invokestatic 54, 3) := by decide +kernel
theorem dX0_addGift_30 : decode cX0_addGift 30 = .ok (.ifCond .ne 5, 3) := by decide +kernel
theorem dX0_addGift_33 : decode cX0_addGift 33 = .ok (.iconst (-1), 1) := by decide +kernel
theorem dX0_addGift_34 : decode cX0_addGift 34 = .ok (.ireturn, 1) := by decide +kernel
theorem dX0_addGift_35 : decode cX0_addGift 35 = .ok (.aload_n 0, 1) := by decide +kernel
theorem dX0_addGift_36 : decode cX0_addGift 36 = .ok (.iload_n 2, 1) := by decide +kernel
theorem dX0_addGift_37 : decode cX0_addGift 37 = .ok (.invokevirtual 62, 3) := by decide +kernel
theorem dX0_addGift_40 : decode cX0_addGift 40 = .ok (.ifCond .eq 6, 3) := by decide +kernel
theorem dX0_addGift_43 : decode cX0_addGift 43 = .ok (.bipush (-2), 2) := by decide +kernel
theorem dX0_addGift_45 : decode cX0_addGift 45 = .ok (.ireturn, 1) := by decide +kernel
theorem dX0_addGift_46 : decode cX0_addGift 46 = .ok (.aload_n 0, 1) := by decide +kernel
theorem dX0_addGift_47 : decode cX0_addGift 47 = .ok (.getfield 27, 3) := by decide +kernel
theorem dX0_addGift_50 : decode cX0_addGift 50 = .ok (.invokevirtual 65, 3) := by decide +kernel
theorem dX0_addGift_53 : decode cX0_addGift 53 = .ok (.ifCond .eq 6, 3) := by decide +kernel
theorem dX0_addGift_56 : decode cX0_addGift 56 = .ok (.bipush (-3), 2) := by decide +kernel
theorem dX0_addGift_58 : decode cX0_addGift 58 = .ok (.ireturn, 1) := by decide +kernel
theorem dX0_addGift_59 : decode cX0_addGift 59 = .ok (.aload_n 0, 1) := by decide +kernel
theorem dX0_addGift_60 : decode cX0_addGift 60 = .ok (.iload_n 1, 1) := by decide +kernel
theorem dX0_addGift_61 : decode cX0_addGift 61 = .ok (.iload_n 2, 1) := by decide +kernel
theorem dX0_addGift_62 : decode cX0_addGift 62 = .ok (.iload_n 3, 1) := by decide +kernel
theorem dX0_addGift_63 : decode cX0_addGift 63 = .ok (.iconst (-1), 1) := by decide +kernel
theorem dX0_addGift_64 : decode cX0_addGift 64 = .ok (.invokevirtual 69, 3) := by decide +kernel
theorem dX0_addGift_67 : decode cX0_addGift 67 = .ok (.ireturn, 1) := by decide +kernel
theorem dX0_bookGift_0 : decode cX0_bookGift 0 = .ok (.aload_n 0, 1) := by decide +kernel
theorem dX0_bookGift_1 : decode cX0_bookGift 1 = .ok (.getfield 27, 3) := by decide +kernel
theorem dX0_bookGift_4 : decode cX0_bookGift 4 = .ok (.invokevirtual 43, 3) := by decide +kernel
theorem dX0_bookGift_7 : decode cX0_bookGift 7 = .ok (.istore 5, 2) := by decide +kernel
theorem dX0_bookGift_9 : decode cX0_bookGift 9 = .ok (.aload_n 0, 1) := by decide +kernel
theorem dX0_bookGift_10 : decode cX0_bookGift 10 = .ok (.getfield 27, 3) := by decide +kernel
theorem dX0_bookGift_13 : decode cX0_bookGift 13 = .ok (.iload 5, 2) := by decide +kernel
theorem dX0_bookGift_15 : decode cX0_bookGift 15 = .ok (.iconst 0, 1) := by decide +kernel
theorem dX0_bookGift_16 : decode cX0_bookGift 16 = .ok (.iload_n 1, 1) := by decide +kernel
theorem dX0_bookGift_17 : decode cX0_bookGift 17 = .ok (.invokevirtual 46, 3) := by decide +kernel
theorem dX0_bookGift_20 : decode cX0_bookGift 20 = .ok (.aload_n 0, 1) := by decide +kernel
theorem dX0_bookGift_21 : decode cX0_bookGift 21 = .ok (.getfield 27, 3) := by decide +kernel
theorem dX0_bookGift_24 : decode cX0_bookGift 24 = .ok (.iload 5, 2) := by decide +kernel
theorem dX0_bookGift_26 : decode cX0_bookGift 26 = .ok (.iconst 1, 1) := by decide +kernel
theorem dX0_bookGift_27 : decode cX0_bookGift 27 = .ok (.iload_n 2, 1) := by decide +kernel
theorem dX0_bookGift_28 : decode cX0_bookGift 28 = .ok (.invokevirtual 46, 3) := by decide +kernel
theorem dX0_bookGift_31 : decode cX0_bookGift 31 = .ok (.aload_n 0, 1) := by decide +kernel
theorem dX0_bookGift_32 : decode cX0_bookGift 32 = .ok (.getfield 27, 3) := by decide +kernel
theorem dX0_bookGift_35 : decode cX0_bookGift 35 = .ok (.iload 5, 2) := by decide +kernel
theorem dX0_bookGift_37 : decode cX0_bookGift 37 = .ok (.iconst 2, 1) := by decide +kernel
theorem dX0_bookGift_38 : decode cX0_bookGift 38 = .ok (.iload_n 3, 1) := by decide +kernel
theorem dX0_bookGift_39 : decode cX0_bookGift 39 = .ok (.invokevirtual 46, 3) := by decide +kernel
theorem dX0_bookGift_42 : decode cX0_bookGift 42 = .ok (.aload_n 0, 1) := by decide +kernel
theorem dX0_bookGift_43 : decode cX0_bookGift 43 = .ok (.getfield 27, 3) := by decide +kernel
theorem dX0_bookGift_46 : decode cX0_bookGift 46 = .ok (.iload 5, 2) := by decide +kernel
theorem dX0_bookGift_48 : decode cX0_bookGift 48 = .ok (.iconst 3, 1) := by decide +kernel
theorem dX0_bookGift_49 : decode cX0_bookGift 49 = .ok (.aload_n 0, 1) := by decide +kernel
theorem dX0_bookGift_50 : decode cX0_bookGift 50 = .ok (.getfield 11, 3) := by decide +kernel
theorem dX0_bookGift_53 : decode cX0_bookGift 53 = .ok (.iconst 0, 1) := by decide +kernel
theorem dX0_bookGift_54 : decode cX0_bookGift 54 = .ok (.iaload, 1) := by decide +kernel
theorem dX0_bookGift_55 : decode cX0_bookGift 55 = .ok (.invokevirtual 46, 3) := by decide +kernel
theorem dX0_bookGift_58 : decode cX0_bookGift 58 = .ok (.aload_n 0, 1) := by decide +kernel
theorem dX0_bookGift_59 : decode cX0_bookGift 59 = .ok (.getfield 27, 3) := by decide +kernel
theorem dX0_bookGift_62 : decode cX0_bookGift 62 = .ok (.iload 5, 2) := by decide +kernel
theorem dX0_bookGift_64 : decode cX0_bookGift 64 = .ok (.bipush 6, 2) := by decide +kernel
theorem dX0_bookGift_66 : decode cX0_bookGift 66 = .ok (.iload 4, 2) := by decide +kernel
theorem dX0_bookGift_68 : decode cX0_bookGift 68 = .ok (.invokevirtual 46, 3) := by decide +kernel
theorem dX0_bookGift_71 : decode cX0_bookGift 71 = .ok (.aload_n 0, 1) := by decide +kernel
theorem dX0_bookGift_72 : decode cX0_bookGift 72 = .ok (.getfield 20, 3) := by decide +kernel
theorem dX0_bookGift_75 : decode cX0_bookGift 75 = .ok (.iload_n 2, 1) := by decide +kernel
theorem dX0_bookGift_76 : decode cX0_bookGift 76 = .ok (.iconst 0, 1) := by decide +kernel
theorem dX0_bookGift_77 : decode cX0_bookGift 77 = .ok (.iload_n 3, 1) := by decide +kernel
theorem dX0_bookGift_78 : decode cX0_bookGift 78 = .ok (.invokevirtual 73, 3) := by decide +kernel
theorem dX0_bookGift_81 : decode cX0_bookGift 81 = .ok (.aload_n 0, 1) := by decide +kernel
theorem dX0_bookGift_82 : decode cX0_bookGift 82 = .ok (.getfield 20, 3) := by decide +kernel
theorem dX0_bookGift_85 : decode cX0_bookGift 85 = .ok (.iload_n 2, 1) := by decide +kernel
theorem dX0_bookGift_86 : decode cX0_bookGift 86 = .ok (.iconst 1, 1) := by decide +kernel
theorem dX0_bookGift_87 : decode cX0_bookGift 87 = .ok (.iload_n 3, 1) := by decide +kernel
theorem dX0_bookGift_88 : decode cX0_bookGift 88 = .ok (.invokevirtual 73, 3) := by decide +kernel
theorem dX0_bookGift_91 : decode cX0_bookGift 91 = .ok (.iload 5, 2) := by decide +kernel
theorem dX0_bookGift_93 : decode cX0_bookGift 93 = .ok (.ireturn, 1) := by decide +kernel
theorem dX0_taxOf_0 : decode cX0_taxOf 0 = .ok (.aload_n 0, 1) := by decide +kernel
theorem dX0_taxOf_1 : decode cX0_taxOf 1 = .ok (.getfield 27, 3) := by decide +kernel
theorem dX0_taxOf_4 : decode cX0_taxOf 4 = .ok (.iload_n 1, 1) := by decide +kernel
theorem dX0_taxOf_5 : decode cX0_taxOf 5 = .ok (.iconst 2, 1) := by decide +kernel
theorem dX0_taxOf_6 : decode cX0_taxOf 6 = .ok (.invokevirtual 58, 3) := by decide +kernel
theorem dX0_taxOf_9 : decode cX0_taxOf 9 = .ok (.iconst 4, 1) := by decide +kernel
theorem dX0_taxOf_10 : decode cX0_taxOf 10 = .ok (.idiv, 1) := by decide +kernel
theorem dX0_taxOf_11 : decode cX0_taxOf 11 = .ok (.ireturn, 1) := by decide +kernel
theorem dX0_homeOfGift_0 : decode cX0_homeOfGift 0 = .ok (.aload_n 0, 1) := by decide +kernel
theorem dX0_homeOfGift_1 : decode cX0_homeOfGift 1 = .ok (.getfield 20, 3) := by decide +kernel
theorem dX0_homeOfGift_4 : decode cX0_homeOfGift 4 = .ok (.aload_n 0, 1) := by decide +kernel
theorem dX0_homeOfGift_5 : decode cX0_homeOfGift 5 = .ok (.getfield 27, 3) := by decide +kernel
theorem dX0_homeOfGift_8 : decode cX0_homeOfGift 8 = .ok (.iload_n 1, 1) := by decide +kernel
theorem dX0_homeOfGift_9 : decode cX0_homeOfGift 9 = .ok (.iconst 1, 1) := by decide +kernel
theorem dX0_homeOfGift_10 : decode cX0_homeOfGift 10 = .ok (.invokevirtual 58, 3) := by decide +kernel
theorem dX0_homeOfGift_13 : decode cX0_homeOfGift 13 = .ok (.bipush 10, 2) := by decide +kernel
theorem dX0_homeOfGift_15 : decode cX0_homeOfGift 15 = .ok (.invokevirtual 58, 3) := by decide +kernel
theorem dX0_homeOfGift_18 : decode cX0_homeOfGift 18 = .ok (.ireturn, 1) := by decide +kernel
theorem dX0_isOf_0 : decode cX0_isOf 0 = .ok (.aload_n 0, 1) := by decide +kernel
theorem dX0_isOf_1 : decode cX0_isOf 1 = .ok (.getfield 27, 3) := by decide +kernel
theorem dX0_isOf_4 : decode cX0_isOf 4 = .ok (.iload_n 1, 1) := by decide +kernel
theorem dX0_isOf_5 : decode cX0_isOf 5 = .ok (.iconst 0, 1) := by decide +kernel
theorem dX0_isOf_6 : decode cX0_isOf 6 = .ok (.invokevirtual 58, 3) := by decide +kernel
theorem dX0_isOf_9 : decode cX0_isOf 9 = .ok (.iload_n 2, 1) := by decide +kernel
theorem dX0_isOf_10 : decode cX0_isOf 10 = .ok (.if_icmp .ne 7, 3) := by decide +kernel
theorem dX0_isOf_13 : decode cX0_isOf 13 = .ok (.iconst 1, 1) := by decide +kernel
theorem dX0_isOf_14 : decode cX0_isOf 14 = .ok (.goto 4, 3) := by decide +kernel
theorem dX0_isOf_17 : decode cX0_isOf 17 = .ok (.iconst 0, 1) := by decide +kernel
theorem dX0_isOf_18 : decode cX0_isOf 18 = .ok (.ireturn, 1) := by decide +kernel
theorem dX0_isClaimed_0 : decode cX0_isClaimed 0 = .ok (.aload_n 0, 1) := by decide +kernel
theorem dX0_isClaimed_1 : decode cX0_isClaimed 1 = .ok (.getfield 27, 3) := by decide +kernel
theorem dX0_isClaimed_4 : decode cX0_isClaimed 4 = .ok (.iload_n 1, 1) := by decide +kernel
theorem dX0_isClaimed_5 : decode cX0_isClaimed 5 = .ok (.iconst 4, 1) := by decide +kernel
theorem dX0_isClaimed_6 : decode cX0_isClaimed 6 = .ok (.invokevirtual 58, 3) := by decide +kernel
theorem dX0_isClaimed_9 : decode cX0_isClaimed 9 = .ok (.iconst 1, 1) := by decide +kernel
theorem dX0_isClaimed_10 : decode cX0_isClaimed 10 = .ok (.if_icmp .ne 7, 3) := by decide +kernel
theorem dX0_isClaimed_13 : decode cX0_isClaimed 13 = .ok (.iconst 1, 1) := by decide +kernel
theorem dX0_isClaimed_14 : decode cX0_isClaimed 14 = .ok (.goto 4, 3) := by decide +kernel
theorem dX0_isClaimed_17 : decode cX0_isClaimed 17 = .ok (.iconst 0, 1) := by decide +kernel
theorem dX0_isClaimed_18 : decode cX0_isClaimed 18 = .ok (.ireturn, 1) := by decide +kernel
theorem dX0_isRefunded_0 : decode cX0_isRefunded 0 = .ok (.aload_n 0, 1) := by decide +kernel
theorem dX0_isRefunded_1 : decode cX0_isRefunded 1 = .ok (.getfield 27, 3) := by decide +kernel
theorem dX0_isRefunded_4 : decode cX0_isRefunded 4 = .ok (.iload_n 1, 1) := by decide +kernel
theorem dX0_isRefunded_5 : decode cX0_isRefunded 5 = .ok (.iconst 5, 1) := by decide +kernel
theorem dX0_isRefunded_6 : decode cX0_isRefunded 6 = .ok (.invokevirtual 58, 3) := by decide +kernel
theorem dX0_isRefunded_9 : decode cX0_isRefunded 9 = .ok (.iconst 1, 1) := by decide +kernel
theorem dX0_isRefunded_10 : decode cX0_isRefunded 10 = .ok (.if_icmp .ne 7, 3) := by decide +kernel
theorem dX0_isRefunded_13 : decode cX0_isRefunded 13 = .ok (.iconst 1, 1) := by decide +kernel
theorem dX0_isRefunded_14 : decode cX0_isRefunded 14 = .ok (.goto 4, 3) := by decide +kernel
theorem dX0_isRefunded_17 : decode cX0_isRefunded 17 = .ok (.iconst 0, 1) := by decide +kernel
theorem dX0_isRefunded_18 : decode cX0_isRefunded 18 = .ok (.ireturn, 1) := by decide +kernel
theorem dX0_addPledge_0 : decode cX0_addPledge 0 = .ok (.aload_n 0, 1) := by decide +kernel
theorem dX0_addPledge_1 : decode cX0_addPledge 1 = .ok (.getfield 24, 3) := by decide +kernel
theorem dX0_addPledge_4 : decode cX0_addPledge 4 = .ok (.iload_n 1, 1) := by decide +kernel
theorem dX0_addPledge_5 : decode cX0_addPledge 5 = .ok (.invokevirtual 50, 3) := by decide +kernel
theorem dX0_addPledge_8 : decode cX0_addPledge 8 = .ok (.ifCond .eq 33, 3) := by decide +kernel
theorem dX0_addPledge_11 : decode cX0_addPledge 11 = .ok (.aload_n 0, 1) := by decide +kernel
theorem dX0_addPledge_12 : decode cX0_addPledge 12 = .ok (.getfield 20, 3) := by decide +kernel
theorem dX0_addPledge_15 : decode cX0_addPledge 15 = .ok (.iload_n 2, 1) := by decide +kernel
theorem dX0_addPledge_16 : decode cX0_addPledge 16 = .ok (.invokevirtual 50, 3) := by decide +kernel
theorem dX0_addPledge_19 : decode cX0_addPledge 19 = .ok (.ifCond .eq 22, 3) := by decide +kernel
theorem dX0_addPledge_22 : decode cX0_addPledge 22 = .ok (.iload_n 3, 1) := by decide +kernel
theorem dX0_addPledge_23 : decode cX0_addPledge 23 = .ok (.iconst 1, 1) := by decide +kernel
theorem dX0_addPledge_24 : decode cX0_addPledge 24 = .ok (.sipush 999, 3) := by decide +kernel
theorem dX0_addPledge_27 : decode cX0_addPledge 27 = .ok (.invokestatic 54, 3) := by decide +kernel
theorem dX0_addPledge_30 : decode cX0_addPledge 30 = .ok (.ifCond .eq 11, 3) := by decide +kernel
theorem dX0_addPledge_33 : decode cX0_addPledge 33 = .ok (.iload 4, 2) := by decide +kernel
theorem dX0_addPledge_35 : decode cX0_addPledge 35 = .ok (.invokestatic 76, 3) := by decide +kernel
theorem dX0_addPledge_38 : decode cX0_addPledge 38 = .ok (.ifCond .ne 5, 3) := by decide +kernel
theorem dX0_addPledge_41 : decode cX0_addPledge 41 = .ok (.iconst (-1), 1) := by decide +kernel
theorem dX0_addPledge_42 : decode cX0_addPledge 42 = .ok (.ireturn, 1) := by decide +kernel
theorem dX0_addPledge_43 : decode cX0_addPledge 43 = .ok (.aload_n 0, 1) := by decide +kernel
theorem dX0_addPledge_44 : decode cX0_addPledge 44 = .ok (.iload_n 2, 1) := by decide +kernel
theorem dX0_addPledge_45 : decode cX0_addPledge 45 = .ok (.invokevirtual 62, 3) := by decide +kernel
theorem dX0_addPledge_48 : decode cX0_addPledge 48 = .ok (.ifCond .eq 6, 3) := by decide +kernel
theorem dX0_addPledge_51 : decode cX0_addPledge 51 = .ok (.bipush (-2), 2) := by decide +kernel
theorem dX0_addPledge_53 : decode cX0_addPledge 53 = .ok (.ireturn, 1) := by decide +kernel
theorem dX0_addPledge_54 : decode cX0_addPledge 54 = .ok (.aload_n 0, 1) := by decide +kernel
theorem dX0_addPledge_55 : decode cX0_addPledge 55 = .ok (.getfield 30, 3) := by decide +kernel
theorem dX0_addPledge_58 : decode cX0_addPledge 58 = .ok (.invokevirtual 43, 3) := by decide +kernel
theorem dX0_addPledge_61 : decode cX0_addPledge 61 = .ok (.istore 5, 2) := by decide +kernel
theorem dX0_addPledge_63 : decode cX0_addPledge 63 = .ok (.iload 5, 2) := by decide +kernel
theorem dX0_addPledge_65 : decode cX0_addPledge 65 = .ok (.iconst (-1), 1) := by decide +kernel
theorem dX0_addPledge_66 : decode cX0_addPledge 66 = .ok (.if_icmp .ne 6, 3) := by decide +kernel
theorem dX0_addPledge_69 : decode cX0_addPledge 69 = .ok (.bipush (-3), 2) := by decide +kernel
theorem dX0_addPledge_71 : decode cX0_addPledge 71 = .ok (.ireturn, 1) := by decide +kernel
theorem dX0_addPledge_72 : decode cX0_addPledge 72 = .ok (.aload_n 0, 1) := by decide +kernel
theorem dX0_addPledge_73 : decode cX0_addPledge 73 = .ok (.getfield 30, 3) := by decide +kernel
theorem dX0_addPledge_76 : decode cX0_addPledge 76 = .ok (.iload 5, 2) := by decide +kernel
theorem dX0_addPledge_78 : decode cX0_addPledge 78 = .ok (.iconst 0, 1) := by decide +kernel
theorem dX0_addPledge_79 : decode cX0_addPledge 79 = .ok (.iload_n 1, 1) := by decide +kernel
theorem dX0_addPledge_80 : decode cX0_addPledge 80 = .ok (.invokevirtual 46, 3) := by decide +kernel
theorem dX0_addPledge_83 : decode cX0_addPledge 83 = .ok (.aload_n 0, 1) := by decide +kernel
theorem dX0_addPledge_84 : decode cX0_addPledge 84 = .ok (.getfield 30, 3) := by decide +kernel
theorem dX0_addPledge_87 : decode cX0_addPledge 87 = .ok (.iload 5, 2) := by decide +kernel
theorem dX0_addPledge_89 : decode cX0_addPledge 89 = .ok (.iconst 1, 1) := by decide +kernel
theorem dX0_addPledge_90 : decode cX0_addPledge 90 = .ok (.iload_n 2, 1) := by decide +kernel
theorem dX0_addPledge_91 : decode cX0_addPledge 91 = .ok (.invokevirtual 46, 3) := by decide +kernel
theorem dX0_addPledge_94 : decode cX0_addPledge 94 = .ok (.aload_n 0, 1) := by decide +kernel
theorem dX0_addPledge_95 : decode cX0_addPledge 95 = .ok (.getfield 30, 3) := by decide +kernel
theorem dX0_addPledge_98 : decode cX0_addPledge 98 = .ok (.iload 5, 2) := by decide +kernel
theorem dX0_addPledge_100 : decode cX0_addPledge 100 = .ok (.iconst 2, 1) := by decide +kernel
theorem dX0_addPledge_101 : decode cX0_addPledge 101 = .ok (.iload_n 3, 1) := by decide +kernel
theorem dX0_addPledge_102 : decode cX0_addPledge 102 = .ok (.invokevirtual 46, 3) := by decide +kernel
theorem dX0_addPledge_105 : decode cX0_addPledge 105 = .ok (.aload_n 0, 1) := by decide +kernel
theorem dX0_addPledge_106 : decode cX0_addPledge 106 = .ok (.getfield 30, 3) := by decide +kernel
theorem dX0_addPledge_109 : decode cX0_addPledge 109 = .ok (.iload 5, 2) := by decide +kernel
theorem dX0_addPledge_111 : decode cX0_addPledge 111 = .ok (.iconst 3, 1) := by decide +kernel
theorem dX0_addPledge_112 : decode cX0_addPledge 112 = .ok (.iload 4, 2) := by decide +kernel
theorem dX0_addPledge_114 : decode cX0_addPledge 114 = .ok (.invokevirtual 46, 3) := by decide +kernel
theorem dX0_addPledge_117 : decode cX0_addPledge 117 = .ok (.iload 5, 2) := by decide +kernel
theorem dX0_addPledge_119 : decode cX0_addPledge 119 = .ok (.ireturn, 1) := by decide +kernel
theorem dX0_tellMiss_0 : decode cX0_tellMiss 0 = .ok (.aload_n 0, 1) := by decide +kernel
theorem dX0_tellMiss_1 : decode cX0_tellMiss 1 = .ok (.getfield 30, 3) := by decide +kernel
theorem dX0_tellMiss_4 : decode cX0_tellMiss 4 = .ok (.iload_n 1, 1) := by decide +kernel
theorem dX0_tellMiss_5 : decode cX0_tellMiss 5 = .ok (.invokevirtual 50, 3) := by decide +kernel
theorem dX0_tellMiss_8 : decode cX0_tellMiss 8 = .ok (.ifCond .ne 5, 3) := by decide +kernel
theorem dX0_tellMiss_11 : decode cX0_tellMiss 11 = .ok (.iconst (-1), 1) := by decide +kernel
theorem dX0_tellMiss_12 : decode cX0_tellMiss 12 = .ok (.ireturn, 1) := by decide +kernel
theorem dX0_tellMiss_13 : decode cX0_tellMiss 13 = .ok (.aload_n 0, 1) := by decide +kernel
theorem dX0_tellMiss_14 : decode cX0_tellMiss 14 = .ok (.iload_n 1, 1) := by decide +kernel
theorem dX0_tellMiss_15 : decode cX0_tellMiss 15 = .ok (.invokevirtual 79, 3) := by decide +kernel
theorem dX0_tellMiss_18 : decode cX0_tellMiss 18 = .ok (.ifCond .eq 17, 3) := by decide +kernel
theorem dX0_tellMiss_21 : decode cX0_tellMiss 21 = .ok (.aload_n 0, 1) := by decide +kernel
theorem dX0_tellMiss_22 : decode cX0_tellMiss 22 = .ok (.getfield 30, 3) := by decide +kernel
theorem dX0_tellMiss_25 : decode cX0_tellMiss 25 = .ok (.iload_n 1, 1) := by decide +kernel
theorem dX0_tellMiss_26 : decode cX0_tellMiss 26 = .ok (.bipush 7, 2) := by decide +kernel
theorem dX0_tellMiss_28 : decode cX0_tellMiss 28 = .ok (.invokevirtual 58, 3) := by decide +kernel
theorem dX0_tellMiss_31 : decode cX0_tellMiss 31 = .ok (.iconst 1, 1) := by decide +kernel
theorem dX0_tellMiss_32 : decode cX0_tellMiss 32 = .ok (.if_icmp .ne 6, 3) := by decide +kernel
theorem dX0_tellMiss_35 : decode cX0_tellMiss 35 = .ok (.bipush (-2), 2) := by decide +kernel
theorem dX0_tellMiss_37 : decode cX0_tellMiss 37 = .ok (.ireturn, 1) := by decide +kernel
theorem dX0_tellMiss_38 : decode cX0_tellMiss 38 = .ok (.aload_n 0, 1) := by decide +kernel
theorem dX0_tellMiss_39 : decode cX0_tellMiss 39 = .ok (.getfield 30, 3) := by decide +kernel
theorem dX0_tellMiss_42 : decode cX0_tellMiss 42 = .ok (.iload_n 1, 1) := by decide +kernel
theorem dX0_tellMiss_43 : decode cX0_tellMiss 43 = .ok (.bipush 7, 2) := by decide +kernel
theorem dX0_tellMiss_45 : decode cX0_tellMiss 45 = .ok (.iconst 1, 1) := by decide +kernel
theorem dX0_tellMiss_46 : decode cX0_tellMiss 46 = .ok (.invokevirtual 46, 3) := by decide +kernel
theorem dX0_tellMiss_49 : decode cX0_tellMiss 49 = .ok (.aload_n 0, 1) := by decide +kernel
theorem dX0_tellMiss_50 : decode cX0_tellMiss 50 = .ok (.getfield 30, 3) := by decide +kernel
theorem dX0_tellMiss_53 : decode cX0_tellMiss 53 = .ok (.iload_n 1, 1) := by decide +kernel
theorem dX0_tellMiss_54 : decode cX0_tellMiss 54 = .ok (.iconst 4, 1) := by decide +kernel
theorem dX0_tellMiss_55 : decode cX0_tellMiss 55 = .ok (.invokevirtual 58, 3) := by decide +kernel
theorem dX0_tellMiss_58 : decode cX0_tellMiss 58 = .ok (.ireturn, 1) := by decide +kernel
theorem dX0_stopPledge_0 : decode cX0_stopPledge 0 = .ok (.aload_n 0, 1) := by decide +kernel
theorem dX0_stopPledge_1 : decode cX0_stopPledge 1 = .ok (.getfield 30, 3) := by decide +kernel
theorem dX0_stopPledge_4 : decode cX0_stopPledge 4 = .ok (.iload_n 1, 1) := by decide +kernel
theorem dX0_stopPledge_5 : decode cX0_stopPledge 5 = .ok (.invokevirtual 50, 3) := by decide +kernel
theorem dX0_stopPledge_8 : decode cX0_stopPledge 8 = .ok (.ifCond .ne 5, 3) := by decide +kernel
theorem dX0_stopPledge_11 : decode cX0_stopPledge 11 = .ok (.iconst (-1), 1) := by decide +kernel
theorem dX0_stopPledge_12 : decode cX0_stopPledge 12 = .ok (.ireturn, 1) := by decide +kernel
theorem dX0_stopPledge_13 : decode cX0_stopPledge 13 = .ok (.aload_n 0, 1) := by decide +kernel
theorem dX0_stopPledge_14 : decode cX0_stopPledge 14 = .ok (.iload_n 1, 1) := by decide +kernel
theorem dX0_stopPledge_15 : decode cX0_stopPledge 15 = .ok (.invokevirtual 79, 3) := by decide +kernel
theorem dX0_stopPledge_18 : decode cX0_stopPledge 18 = .ok (.ifCond .ne 6, 3) := by decide +kernel
theorem dX0_stopPledge_21 : decode cX0_stopPledge 21 = .ok (.bipush (-2), 2) := by decide +kernel
theorem dX0_stopPledge_23 : decode cX0_stopPledge 23 = .ok (.ireturn, 1) := by decide +kernel
theorem dX0_stopPledge_24 : decode cX0_stopPledge 24 = .ok (.aload_n 0, 1) := by decide +kernel
theorem dX0_stopPledge_25 : decode cX0_stopPledge 25 = .ok (.iload_n 1, 1) := by decide +kernel
theorem dX0_stopPledge_26 : decode cX0_stopPledge 26 = .ok (.invokevirtual 82, 3) := by decide +kernel
theorem dX0_stopPledge_29 : decode cX0_stopPledge 29 = .ok (.aload_n 0, 1) := by decide +kernel
theorem dX0_stopPledge_30 : decode cX0_stopPledge 30 = .ok (.getfield 30, 3) := by decide +kernel
theorem dX0_stopPledge_33 : decode cX0_stopPledge 33 = .ok (.iload_n 1, 1) := by decide +kernel
theorem dX0_stopPledge_34 : decode cX0_stopPledge 34 = .ok (.iconst 3, 1) := by decide +kernel
theorem dX0_stopPledge_35 : decode cX0_stopPledge 35 = .ok (.invokevirtual 58, 3) := by decide +kernel
theorem dX0_stopPledge_38 : decode cX0_stopPledge 38 = .ok (.ireturn, 1) := by decide +kernel
theorem dX0_isRunning_0 : decode cX0_isRunning 0 = .ok (.aload_n 0, 1) := by decide +kernel
theorem dX0_isRunning_1 : decode cX0_isRunning 1 = .ok (.getfield 30, 3) := by decide +kernel
theorem dX0_isRunning_4 : decode cX0_isRunning 4 = .ok (.iload_n 1, 1) := by decide +kernel
theorem dX0_isRunning_5 : decode cX0_isRunning 5 = .ok (.iconst 5, 1) := by decide +kernel
theorem dX0_isRunning_6 : decode cX0_isRunning 6 = .ok (.invokevirtual 58, 3) := by decide +kernel
theorem dX0_isRunning_9 : decode cX0_isRunning 9 = .ok (.ifCond .ne 7, 3) := by decide +kernel
theorem dX0_isRunning_12 : decode cX0_isRunning 12 = .ok (.iconst 1, 1) := by decide +kernel
theorem dX0_isRunning_13 : decode cX0_isRunning 13 = .ok (.goto 4, 3) := by decide +kernel
theorem dX0_isRunning_16 : decode cX0_isRunning 16 = .ok (.iconst 0, 1) := by decide +kernel
theorem dX0_isRunning_17 : decode cX0_isRunning 17 = .ok (.ireturn, 1) := by decide +kernel
theorem dX0_haltPledge_0 : decode cX0_haltPledge 0 = .ok (.aload_n 0, 1) := by decide +kernel
theorem dX0_haltPledge_1 : decode cX0_haltPledge 1 = .ok (.getfield 30, 3) := by decide +kernel
theorem dX0_haltPledge_4 : decode cX0_haltPledge 4 = .ok (.iload_n 1, 1) := by decide +kernel
theorem dX0_haltPledge_5 : decode cX0_haltPledge 5 = .ok (.iconst 5, 1) := by decide +kernel
theorem dX0_haltPledge_6 : decode cX0_haltPledge 6 = .ok (.iconst 2, 1) := by decide +kernel
theorem dX0_haltPledge_7 : decode cX0_haltPledge 7 = .ok (.invokevirtual 46, 3) := by decide +kernel
theorem dX0_haltPledge_10 : decode cX0_haltPledge 10 = .ok (.aload_n 0, 1) := by decide +kernel
theorem dX0_haltPledge_11 : decode cX0_haltPledge 11 = .ok (.getfield 30, 3) := by decide +kernel
theorem dX0_haltPledge_14 : decode cX0_haltPledge 14 = .ok (.iload_n 1, 1) := by decide +kernel
theorem dX0_haltPledge_15 : decode cX0_haltPledge 15 = .ok (.bipush 7, 2) := by decide +kernel
theorem dX0_haltPledge_17 : decode cX0_haltPledge 17 = .ok (.iconst 0, 1) := by decide +kernel
theorem dX0_haltPledge_18 : decode cX0_haltPledge 18 = .ok (.invokevirtual 46, 3) := by decide +kernel
theorem dX0_haltPledge_21 : decode cX0_haltPledge 21 = .ok (.return_, 1) := by decide +kernel
theorem dX0_isSpan_0 : decode cX0_isSpan 0 = .ok (.iload_n 0, 1) := by decide +kernel
theorem dX0_isSpan_1 : decode cX0_isSpan 1 = .ok (.iconst 1, 1) := by decide +kernel
theorem dX0_isSpan_2 : decode cX0_isSpan 2 = .ok (.bipush 60, 2) := by decide +kernel
theorem dX0_isSpan_4 : decode cX0_isSpan 4 = .ok (.invokestatic 54, 3) := by decide +kernel
theorem dX0_isSpan_7 : decode cX0_isSpan 7 = .ok (.ireturn, 1) := by decide +kernel
theorem dX0_passMonths_0 : decode cX0_passMonths 0 = .ok (.iload_n 1, 1) := by decide +kernel
theorem dX0_passMonths_1 : decode cX0_passMonths 1 = .ok (.invokestatic 76, 3) := by decide +kernel
theorem dX0_passMonths_4 : decode cX0_passMonths 4 = .ok (.ifCond .ne 5, 3) := by decide +kernel
theorem dX0_passMonths_7 : decode cX0_passMonths 7 = .ok (.iconst (-1), 1) := by decide +kernel
theorem dX0_passMonths_8 : decode cX0_passMonths 8 = .ok (.ireturn, 1) := by decide +kernel
theorem dX0_passMonths_9 : decode cX0_passMonths 9 = .ok (.aload_n 0, 1) := by decide +kernel
theorem dX0_passMonths_10 : decode cX0_passMonths 10 = .ok (.getfield 11, 3) := by decide +kernel
theorem dX0_passMonths_13 : decode cX0_passMonths 13 = .ok (.iconst 0, 1) := by decide +kernel
theorem dX0_passMonths_14 : decode cX0_passMonths 14 = .ok (.iaload, 1) := by decide +kernel
theorem dX0_passMonths_15 : decode cX0_passMonths 15 = .ok (.iload_n 1, 1) := by decide +kernel
theorem dX0_passMonths_16 : decode cX0_passMonths 16 = .ok (.iadd, 1) := by decide +kernel
theorem dX0_passMonths_17 : decode cX0_passMonths 17 = .ok (.iload_n 2, 1) := by decide +kernel
theorem dX0_passMonths_18 : decode cX0_passMonths 18 = .ok (.if_icmp .le 6, 3) := by decide +kernel
theorem dX0_passMonths_21 : decode cX0_passMonths 21 = .ok (.bipush (-3), 2) := by decide +kernel
theorem dX0_passMonths_23 : decode cX0_passMonths 23 = .ok (.ireturn, 1) := by decide +kernel
theorem dX0_passMonths_24 : decode cX0_passMonths 24 = .ok (.aload_n 0, 1) := by decide +kernel
theorem dX0_passMonths_25 : decode cX0_passMonths 25 = .ok (.getfield 27, 3) := by decide +kernel
theorem dX0_passMonths_28 : decode cX0_passMonths 28 = .ok (.invokevirtual 86, 3) := by decide +kernel
theorem dX0_passMonths_31 : decode cX0_passMonths 31 = .ok (.istore_n 3, 1) := by decide +kernel
theorem dX0_passMonths_32 : decode cX0_passMonths 32 = .ok (.iconst 0, 1) := by decide +kernel
theorem dX0_passMonths_33 : decode cX0_passMonths 33 = .ok (.istore 4, 2) := by decide +kernel
theorem dX0_passMonths_35 : decode cX0_passMonths 35 = .ok (.iload 4, 2) := by decide +kernel
theorem dX0_passMonths_37 : decode cX0_passMonths 37 = .ok (.iload_n 1, 1) := by decide +kernel
theorem dX0_passMonths_38 : decode cX0_passMonths 38 = .ok (.if_icmp .ge 55, 3) := by decide +kernel
theorem dX0_passMonths_41 : decode cX0_passMonths 41 = .ok (.aload_n 0, 1) := by decide +kernel
theorem dX0_passMonths_42 : decode cX0_passMonths 42 = .ok (.getfield 11, 3) := by decide +kernel
theorem dX0_passMonths_45 : decode cX0_passMonths 45 = .ok (.iconst 0, 1) := by decide +kernel
theorem dX0_passMonths_46 : decode cX0_passMonths 46 = .ok (.dup2, 1) := by decide +kernel
theorem dX0_passMonths_47 : decode cX0_passMonths 47 = .ok (.iaload, 1) := by decide +kernel
theorem dX0_passMonths_48 : decode cX0_passMonths 48 = .ok (.iconst 1, 1) := by decide +kernel
theorem dX0_passMonths_49 : decode cX0_passMonths 49 = .ok (.iadd, 1) := by decide +kernel
theorem dX0_passMonths_50 : decode cX0_passMonths 50 = .ok (.iastore, 1) := by decide +kernel
theorem dX0_passMonths_51 : decode cX0_passMonths 51 = .ok (.iconst 0, 1) := by decide +kernel
theorem dX0_passMonths_52 : decode cX0_passMonths 52 = .ok (.istore 5, 2) := by decide +kernel
theorem dX0_passMonths_54 : decode cX0_passMonths 54 = .ok (.iload 5, 2) := by decide +kernel
theorem dX0_passMonths_56 : decode cX0_passMonths 56 = .ok (.aload_n 0, 1) := by decide +kernel
theorem dX0_passMonths_57 : decode cX0_passMonths 57 = .ok (.getfield 30, 3) := by decide +kernel
theorem dX0_passMonths_60 : decode cX0_passMonths 60 = .ok (.invokevirtual 86, 3) := by decide +kernel
theorem dX0_passMonths_63 : decode cX0_passMonths 63 = .ok (.if_icmp .ge 24, 3) := by decide +kernel
theorem dX0_passMonths_66 : decode cX0_passMonths 66 = .ok (.aload_n 0, 1) := by decide +kernel
theorem dX0_passMonths_67 : decode cX0_passMonths 67 = .ok (.iload 5, 2) := by decide +kernel
theorem dX0_passMonths_69 : decode cX0_passMonths 69 = .ok (.invokevirtual 79, 3) := by decide +kernel
theorem dX0_passMonths_72 : decode cX0_passMonths 72 = .ok (.ifCond .eq 9, 3) := by decide +kernel
theorem dX0_passMonths_75 : decode cX0_passMonths 75 = .ok (.aload_n 0, 1) := by decide +kernel
theorem dX0_passMonths_76 : decode cX0_passMonths 76 = .ok (.iload 5, 2) := by decide +kernel
theorem dX0_passMonths_78 : decode cX0_passMonths 78 = .ok (.invokevirtual 89, 3) := by decide +kernel
theorem dX0_passMonths_81 : decode cX0_passMonths 81 = .ok (.iinc 5 1, 3) := by decide +kernel
theorem dX0_passMonths_84 : decode cX0_passMonths 84 = .ok (.goto (-30), 3) := by decide +kernel
theorem dX0_passMonths_87 : decode cX0_passMonths 87 = .ok (.iinc 4 1, 3) := by decide +kernel
theorem dX0_passMonths_90 : decode cX0_passMonths 90 = .ok (.goto (-55), 3) := by decide +kernel
theorem dX0_passMonths_93 : decode cX0_passMonths 93 = .ok (.aload_n 0, 1) := by decide +kernel
theorem dX0_passMonths_94 : decode cX0_passMonths 94 = .ok (.getfield 27, 3) := by decide +kernel
theorem dX0_passMonths_97 : decode cX0_passMonths 97 = .ok (.invokevirtual 86, 3) := by decide +kernel
theorem dX0_passMonths_100 : decode cX0_passMonths 100 = .ok (.iload_n 3, 1) := by decide +kernel
theorem dX0_passMonths_101 : decode cX0_passMonths 101 = .ok (.isub, 1) := by decide +kernel
theorem dX0_passMonths_102 : decode cX0_passMonths 102 = .ok (.ireturn, 1) := by decide +kernel
theorem dX0_runPledge_0 : decode cX0_runPledge 0 = .ok (.aload_n 0, 1) := by decide +kernel
theorem dX0_runPledge_1 : decode cX0_runPledge 1 = .ok (.getfield 30, 3) := by decide +kernel
theorem dX0_runPledge_4 : decode cX0_runPledge 4 = .ok (.iload_n 1, 1) := by decide +kernel
theorem dX0_runPledge_5 : decode cX0_runPledge 5 = .ok (.iconst 3, 1) := by decide +kernel
theorem dX0_runPledge_6 : decode cX0_runPledge 6 = .ok (.iconst (-1), 1) := by decide +kernel
theorem dX0_runPledge_7 : decode cX0_runPledge 7 = .ok (.invokevirtual 73, 3) := by decide +kernel
theorem dX0_runPledge_10 : decode cX0_runPledge 10 = .ok (.aload_n 0, 1) := by decide +kernel
theorem dX0_runPledge_11 : decode cX0_runPledge 11 = .ok (.getfield 30, 3) := by decide +kernel
theorem dX0_runPledge_14 : decode cX0_runPledge 14 = .ok (.iload_n 1, 1) := by decide +kernel
theorem dX0_runPledge_15 : decode cX0_runPledge 15 = .ok (.bipush 7, 2) := by decide +kernel
theorem dX0_runPledge_17 : decode cX0_runPledge 17 = .ok (.invokevirtual 58, 3) := by decide +kernel
theorem dX0_runPledge_20 : decode cX0_runPledge 20 = .ok (.iconst 1, 1) := by decide +kernel
theorem dX0_runPledge_21 : decode cX0_runPledge 21 = .ok (.if_icmp .ne 46, 3) := by decide +kernel
theorem dX0_runPledge_24 : decode cX0_runPledge 24 = .ok (.aload_n 0, 1) := by decide +kernel
theorem dX0_runPledge_25 : decode cX0_runPledge 25 = .ok (.getfield 30, 3) := by decide +kernel
theorem dX0_runPledge_28 : decode cX0_runPledge 28 = .ok (.iload_n 1, 1) := by decide +kernel
theorem dX0_runPledge_29 : decode cX0_runPledge 29 = .ok (.bipush 7, 2) := by decide +kernel
theorem dX0_runPledge_31 : decode cX0_runPledge 31 = .ok (.iconst 0, 1) := by decide +kernel
theorem dX0_runPledge_32 : decode cX0_runPledge 32 = .ok (.invokevirtual 46, 3) := by decide +kernel
theorem dX0_runPledge_35 : decode cX0_runPledge 35 = .ok (.aload_n 0, 1) := by decide +kernel
theorem dX0_runPledge_36 : decode cX0_runPledge 36 = .ok (.getfield 30, 3) := by decide +kernel
theorem dX0_runPledge_39 : decode cX0_runPledge 39 = .ok (.iload_n 1, 1) := by decide +kernel
theorem dX0_runPledge_40 : decode cX0_runPledge 40 = .ok (.iconst 4, 1) := by decide +kernel
theorem dX0_runPledge_41 : decode cX0_runPledge 41 = .ok (.iconst 1, 1) := by decide +kernel
theorem dX0_runPledge_42 : decode cX0_runPledge 42 = .ok (.invokevirtual 73, 3) := by decide +kernel
theorem dX0_runPledge_45 : decode cX0_runPledge 45 = .ok (.aload_n 0, 1) := by decide +kernel
theorem dX0_runPledge_46 : decode cX0_runPledge 46 = .ok (.getfield 30, 3) := by decide +kernel
theorem dX0_runPledge_49 : decode cX0_runPledge 49 = .ok (.iload_n 1, 1) := by decide +kernel
theorem dX0_runPledge_50 : decode cX0_runPledge 50 = .ok (.iconst 4, 1) := by decide +kernel
theorem dX0_runPledge_51 : decode cX0_runPledge 51 = .ok (.invokevirtual 58, 3) := by decide +kernel
theorem dX0_runPledge_54 : decode cX0_runPledge 54 = .ok (.iconst 3, 1) := by decide +kernel
theorem dX0_runPledge_55 : decode cX0_runPledge 55 = .ok (.if_icmp .lt 7, 3) := by decide +kernel
theorem dX0_runPledge_58 : decode cX0_runPledge 58 = .ok (.iconst 1, 1) := by decide +kernel
theorem dX0_runPledge_59 : decode cX0_runPledge 59 = .ok (.goto 4, 3) := by decide +kernel
theorem dX0_runPledge_62 : decode cX0_runPledge 62 = .ok (.iconst 0, 1) := by decide +kernel
theorem dX0_runPledge_63 : decode cX0_runPledge 63 = .ok (.istore_n 2, 1) := by decide +kernel
theorem dX0_runPledge_64 : decode cX0_runPledge 64 = .ok (.goto 65, 3) := by decide +kernel
theorem dX0_runPledge_67 : decode cX0_runPledge 67 = .ok (.aload_n 0, 1) := by decide +kernel
theorem dX0_runPledge_68 : decode cX0_runPledge 68 = .ok (.getfield 27, 3) := by decide +kernel
theorem dX0_runPledge_71 : decode cX0_runPledge 71 = .ok (.invokevirtual 65, 3) := by decide +kernel
theorem dX0_runPledge_74 : decode cX0_runPledge 74 = .ok (.istore_n 2, 1) := by decide +kernel
theorem dX0_runPledge_75 : decode cX0_runPledge 75 = .ok (.iload_n 2, 1) := by decide +kernel
theorem dX0_runPledge_76 : decode cX0_runPledge 76 = .ok (.ifCond .ne 53, 3) := by decide +kernel
theorem dX0_runPledge_79 : decode cX0_runPledge 79 = .ok (.aload_n 0, 1) := by decide +kernel
theorem dX0_runPledge_80 : decode cX0_runPledge 80 = .ok (.getfield 30, 3) := by decide +kernel
theorem dX0_runPledge_83 : decode cX0_runPledge 83 = .ok (.iload_n 1, 1) := by decide +kernel
theorem dX0_runPledge_84 : decode cX0_runPledge 84 = .ok (.iconst 0, 1) := by decide +kernel
theorem dX0_runPledge_85 : decode cX0_runPledge 85 = .ok (.invokevirtual 58, 3) := by decide +kernel
theorem dX0_runPledge_88 : decode cX0_runPledge 88 = .ok (.istore_n 3, 1) := by decide +kernel
theorem dX0_runPledge_89 : decode cX0_runPledge 89 = .ok (.aload_n 0, 1) := by decide +kernel
theorem dX0_runPledge_90 : decode cX0_runPledge 90 = .ok (.getfield 30, 3) := by decide +kernel
theorem dX0_runPledge_93 : decode cX0_runPledge 93 = .ok (.iload_n 1, 1) := by decide +kernel
theorem dX0_runPledge_94 : decode cX0_runPledge 94 = .ok (.iconst 1, 1) := by decide +kernel
theorem dX0_runPledge_95 : decode cX0_runPledge 95 = .ok (.invokevirtual 58, 3) := by decide +kernel
theorem dX0_runPledge_98 : decode cX0_runPledge 98 = .ok (.istore 4, 2) := by decide +kernel
theorem dX0_runPledge_100 : decode cX0_runPledge 100 = .ok (.aload_n 0, 1) := by decide +kernel
theorem dX0_runPledge_101 : decode cX0_runPledge 101 = .ok (.iload_n 3, 1) := by decide +kernel
theorem dX0_runPledge_102 : decode cX0_runPledge 102 = .ok (.iload 4, 2) := by decide +kernel
theorem dX0_runPledge_104 : decode cX0_runPledge 104 = .ok (.aload_n 0, 1) := by decide +kernel
theorem dX0_runPledge_105 : decode cX0_runPledge 105 = .ok (.getfield 30, 3) := by decide +kernel
theorem dX0_runPledge_108 : decode cX0_runPledge 108 = .ok (.iload_n 1, 1) := by decide +kernel
theorem dX0_runPledge_109 : decode cX0_runPledge 109 = .ok (.iconst 2, 1) := by decide +kernel
theorem dX0_runPledge_110 : decode cX0_runPledge 110 = .ok (.invokevirtual 58, 3) := by decide +kernel
theorem dX0_runPledge_113 : decode cX0_runPledge 113 = .ok (.iload_n 1, 1) := by decide +kernel
theorem dX0_runPledge_114 : decode cX0_runPledge 114 = .ok (.invokevirtual 69, 3) := by decide +kernel
theorem dX0_runPledge_117 : decode cX0_runPledge 117 = .ok (.pop, 1) := by decide +kernel
theorem dX0_runPledge_118 : decode cX0_runPledge 118 = .ok (.aload_n 0, 1) := by decide +kernel
theorem dX0_runPledge_119 : decode cX0_runPledge 119 = .ok (.getfield 30, 3) := by decide +kernel
theorem dX0_runPledge_122 : decode cX0_runPledge 122 = .ok (.iload_n 1, 1) := by decide +kernel
theorem dX0_runPledge_123 : decode cX0_runPledge 123 = .ok (.bipush 6, 2) := by decide +kernel
theorem dX0_runPledge_125 : decode cX0_runPledge 125 = .ok (.iconst 1, 1) := by decide +kernel
theorem dX0_runPledge_126 : decode cX0_runPledge 126 = .ok (.invokevirtual 73, 3) := by decide +kernel
theorem dX0_runPledge_129 : decode cX0_runPledge 129 = .ok (.iload_n 2, 1) := by decide +kernel
theorem dX0_runPledge_130 : decode cX0_runPledge 130 = .ok (.ifCond .eq 16, 3) := by decide +kernel
theorem dX0_runPledge_133 : decode cX0_runPledge 133 = .ok (.aload_n 0, 1) := by decide +kernel
theorem dX0_runPledge_134 : decode cX0_runPledge 134 = .ok (.getfield 30, 3) := by decide +kernel
theorem dX0_runPledge_137 : decode cX0_runPledge 137 = .ok (.iload_n 1, 1) := by decide +kernel
theorem dX0_runPledge_138 : decode cX0_runPledge 138 = .ok (.iconst 5, 1) := by decide +kernel
theorem dX0_runPledge_139 : decode cX0_runPledge 139 = .ok (.iconst 3, 1) := by decide +kernel
theorem dX0_runPledge_140 : decode cX0_runPledge 140 = .ok (.invokevirtual 46, 3) := by decide +kernel
theorem dX0_runPledge_143 : decode cX0_runPledge 143 = .ok (.goto 25, 3) := by decide +kernel
theorem dX0_runPledge_146 : decode cX0_runPledge 146 = .ok (.aload_n 0, 1) := by decide +kernel
theorem dX0_runPledge_147 : decode cX0_runPledge 147 = .ok (.getfield 30, 3) := by decide +kernel
theorem dX0_runPledge_150 : decode cX0_runPledge 150 = .ok (.iload_n 1, 1) := by decide +kernel
theorem dX0_runPledge_151 : decode cX0_runPledge 151 = .ok (.iconst 3, 1) := by decide +kernel
theorem dX0_runPledge_152 : decode cX0_runPledge 152 = .ok (.invokevirtual 58, 3) := by decide +kernel
theorem dX0_runPledge_155 : decode cX0_runPledge 155 = .ok (.ifCond .ne 13, 3) := by decide +kernel
theorem dX0_runPledge_158 : decode cX0_runPledge 158 = .ok (.aload_n 0, 1) := by decide +kernel
theorem dX0_runPledge_159 : decode cX0_runPledge 159 = .ok (.getfield 30, 3) := by decide +kernel
theorem dX0_runPledge_162 : decode cX0_runPledge 162 = .ok (.iload_n 1, 1) := by decide +kernel
theorem dX0_runPledge_163 : decode cX0_runPledge 163 = .ok (.iconst 5, 1) := by decide +kernel
theorem dX0_runPledge_164 : decode cX0_runPledge 164 = .ok (.iconst 1, 1) := by decide +kernel
theorem dX0_runPledge_165 : decode cX0_runPledge 165 = .ok (.invokevirtual 46, 3) := by decide +kernel
theorem dX0_runPledge_168 : decode cX0_runPledge 168 = .ok (.return_, 1) := by decide +kernel
theorem dX0_claimGifts_0 : decode cX0_claimGifts 0 = .ok (.iconst 0, 1) := by decide +kernel
theorem dX0_claimGifts_1 : decode cX0_claimGifts 1 = .ok (.istore_n 2, 1) := by decide +kernel
theorem dX0_claimGifts_2 : decode cX0_claimGifts 2 = .ok (.iconst 0, 1) := by decide +kernel
theorem dX0_claimGifts_3 : decode cX0_claimGifts 3 = .ok (.istore_n 3, 1) := by decide +kernel
theorem dX0_claimGifts_4 : decode cX0_claimGifts 4 = .ok (.iconst 0, 1) := by decide +kernel
theorem dX0_claimGifts_5 : decode cX0_claimGifts 5 = .ok (.istore 4, 2) := by decide +kernel
theorem dX0_claimGifts_7 : decode cX0_claimGifts 7 = .ok (.iload 4, 2) := by decide +kernel
theorem dX0_claimGifts_9 : decode cX0_claimGifts 9 = .ok (.aload_n 0, 1) := by decide +kernel
theorem dX0_claimGifts_10 : decode cX0_claimGifts 10 = .ok (.getfield 27, 3) := by decide +kernel
theorem dX0_claimGifts_13 : decode cX0_claimGifts 13 = .ok (.invokevirtual 86, 3) := by decide +kernel
theorem dX0_claimGifts_16 : decode cX0_claimGifts 16 = .ok (.if_icmp .ge 95, 3) := by decide +kernel
theorem dX0_claimGifts_19 : decode cX0_claimGifts 19 = .ok (.iload_n 1, 1) := by decide +kernel
theorem dX0_claimGifts_20 : decode cX0_claimGifts 20 = .ok (.iconst (-1), 1) := by decide +kernel
theorem dX0_claimGifts_21 : decode cX0_claimGifts 21 = .ok (.if_icmp .eq 13, 3) := by decide +kernel
theorem dX0_claimGifts_24 : decode cX0_claimGifts 24 = .ok (.aload_n 0, 1) := by decide +kernel
theorem dX0_claimGifts_25 : decode cX0_claimGifts 25 = .ok (.iload 4, 2) := by decide +kernel
theorem dX0_claimGifts_27 : decode cX0_claimGifts 27 = .ok (.iload_n 1, 1) := by decide +kernel
theorem dX0_claimGifts_28 : decode cX0_claimGifts 28 = .ok (.invokevirtual 92, 3) := by decide +kernel
theorem dX0_claimGifts_31 : decode cX0_claimGifts 31 = .ok (.ifCond .eq 74, 3) := by decide +kernel
theorem dX0_claimGifts_34 : decode cX0_claimGifts 34 = .ok (.aload_n 0, 1) := by decide +kernel
theorem dX0_claimGifts_35 : decode cX0_claimGifts 35 = .ok (.iload 4, 2) := by decide +kernel
theorem dX0_claimGifts_37 : decode cX0_claimGifts 37 = .ok (.invokevirtual 96, 3) := by decide +kernel
theorem dX0_claimGifts_40 : decode cX0_claimGifts 40 = .ok (.ifCond .eq 65, 3) := by decide +kernel
theorem dX0_claimGifts_43 : decode cX0_claimGifts 43 = .ok (.aload_n 0, 1) := by decide +kernel
theorem dX0_claimGifts_44 : decode cX0_claimGifts 44 = .ok (.getfield 27, 3) := by decide +kernel
theorem dX0_claimGifts_47 : decode cX0_claimGifts 47 = .ok (.iload 4, 2) := by decide +kernel
theorem dX0_claimGifts_49 : decode cX0_claimGifts 49 = .ok (.iconst 4, 1) := by decide +kernel
theorem dX0_claimGifts_50 : decode cX0_claimGifts 50 = .ok (.iconst 1, 1) := by decide +kernel
theorem dX0_claimGifts_51 : decode cX0_claimGifts 51 = .ok (.invokevirtual 46, 3) := by decide +kernel
theorem dX0_claimGifts_54 : decode cX0_claimGifts 54 = .ok (.aload_n 0, 1) := by decide +kernel
theorem dX0_claimGifts_55 : decode cX0_claimGifts 55 = .ok (.getfield 20, 3) := by decide +kernel
theorem dX0_claimGifts_58 : decode cX0_claimGifts 58 = .ok (.aload_n 0, 1) := by decide +kernel
theorem dX0_claimGifts_59 : decode cX0_claimGifts 59 = .ok (.iload 4, 2) := by decide +kernel
theorem dX0_claimGifts_61 : decode cX0_claimGifts 61 = .ok (.invokevirtual 99, 3) := by decide +kernel
theorem dX0_claimGifts_64 : decode cX0_claimGifts 64 = .ok (.iconst 0, 1) := by decide +kernel
theorem dX0_claimGifts_65 : decode cX0_claimGifts 65 = .ok (.aload_n 0, 1) := by decide +kernel
theorem dX0_claimGifts_66 : decode cX0_claimGifts 66 = .ok (.iload 4, 2) := by decide +kernel
theorem dX0_claimGifts_68 : decode cX0_claimGifts 68 = .ok (.invokevirtual 103, 3) := by decide +kernel
theorem dX0_claimGifts_71 : decode cX0_claimGifts 71 = .ok (.invokevirtual 73, 3) := by decide +kernel
theorem dX0_claimGifts_74 : decode cX0_claimGifts 74 = .ok (.aload_n 0, 1) := by decide +kernel
theorem dX0_claimGifts_75 : decode cX0_claimGifts 75 = .ok (.getfield 20, 3) := by decide +kernel
theorem dX0_claimGifts_78 : decode cX0_claimGifts 78 = .ok (.aload_n 0, 1) := by decide +kernel
theorem dX0_claimGifts_79 : decode cX0_claimGifts 79 = .ok (.iload 4, 2) := by decide +kernel
theorem dX0_claimGifts_81 : decode cX0_claimGifts 81 = .ok (.invokevirtual 99, 3) := by decide +kernel
theorem dX0_claimGifts_84 : decode cX0_claimGifts 84 = .ok (.iconst 2, 1) := by decide +kernel
theorem dX0_claimGifts_85 : decode cX0_claimGifts 85 = .ok (.aload_n 0, 1) := by decide +kernel
theorem dX0_claimGifts_86 : decode cX0_claimGifts 86 = .ok (.iload 4, 2) := by decide +kernel
theorem dX0_claimGifts_88 : decode cX0_claimGifts 88 = .ok (.invokevirtual 103, 3) := by decide +kernel
theorem dX0_claimGifts_91 : decode cX0_claimGifts 91 = .ok (.invokevirtual 73, 3) := by decide +kernel
theorem dX0_claimGifts_94 : decode cX0_claimGifts 94 = .ok (.iload_n 2, 1) := by decide +kernel
theorem dX0_claimGifts_95 : decode cX0_claimGifts 95 = .ok (.aload_n 0, 1) := by decide +kernel
theorem dX0_claimGifts_96 : decode cX0_claimGifts 96 = .ok (.iload 4, 2) := by decide +kernel
theorem dX0_claimGifts_98 : decode cX0_claimGifts 98 = .ok (.invokevirtual 103, 3) := by decide +kernel
theorem dX0_claimGifts_101 : decode cX0_claimGifts 101 = .ok (.iadd, 1) := by decide +kernel
theorem dX0_claimGifts_102 : decode cX0_claimGifts 102 = .ok (.istore_n 2, 1) := by decide +kernel
theorem dX0_claimGifts_103 : decode cX0_claimGifts 103 = .ok (.iconst 1, 1) := by decide +kernel
theorem dX0_claimGifts_104 : decode cX0_claimGifts 104 = .ok (.istore_n 3, 1) := by decide +kernel
theorem dX0_claimGifts_105 : decode cX0_claimGifts 105 = .ok (.iinc 4 1, 3) := by decide +kernel
theorem dX0_claimGifts_108 : decode cX0_claimGifts 108 = .ok (.goto (-101), 3) := by decide +kernel
theorem dX0_claimGifts_111 : decode cX0_claimGifts 111 = .ok (.iload_n 3, 1) := by decide +kernel
theorem dX0_claimGifts_112 : decode cX0_claimGifts 112 = .ok (.ifCond .eq 7, 3) := by decide +kernel
theorem dX0_claimGifts_115 : decode cX0_claimGifts 115 = .ok (.iload_n 2, 1) := by decide +kernel
theorem dX0_claimGifts_116 : decode cX0_claimGifts 116 = .ok (.goto 5, 3) := by decide +kernel
theorem dX0_claimGifts_119 : decode cX0_claimGifts 119 = .ok (.bipush (-2), 2) := by decide +kernel
theorem dX0_claimGifts_121 : decode cX0_claimGifts 121 = .ok (.ireturn, 1) := by decide +kernel
theorem dX0_canBeClaimed_0 : decode cX0_canBeClaimed 0 = .ok (.aload_n 0, 1) := by decide +kernel
theorem dX0_canBeClaimed_1 : decode cX0_canBeClaimed 1 = .ok (.getfield 27, 3) := by decide +kernel
theorem dX0_canBeClaimed_4 : decode cX0_canBeClaimed 4 = .ok (.iload_n 1, 1) := by decide +kernel
theorem dX0_canBeClaimed_5 : decode cX0_canBeClaimed 5 = .ok (.iconst 0, 1) := by decide +kernel
theorem dX0_canBeClaimed_6 : decode cX0_canBeClaimed 6 = .ok (.invokevirtual 58, 3) := by decide +kernel
theorem dX0_canBeClaimed_9 : decode cX0_canBeClaimed 9 = .ok (.istore_n 2, 1) := by decide +kernel
theorem dX0_canBeClaimed_10 : decode cX0_canBeClaimed 10 = .ok (.aload_n 0, 1) := by decide +kernel
theorem dX0_canBeClaimed_11 : decode cX0_canBeClaimed 11 = .ok (.getfield 27, 3) := by decide +kernel
theorem dX0_canBeClaimed_14 : decode cX0_canBeClaimed 14 = .ok (.iload_n 1, 1) := by decide +kernel
theorem dX0_canBeClaimed_15 : decode cX0_canBeClaimed 15 = .ok (.iconst 3, 1) := by decide +kernel
theorem dX0_canBeClaimed_16 : decode cX0_canBeClaimed 16 = .ok (.invokevirtual 58, 3) := by decide +kernel
theorem dX0_canBeClaimed_19 : decode cX0_canBeClaimed 19 = .ok (.istore_n 3, 1) := by decide +kernel
theorem dX0_canBeClaimed_20 : decode cX0_canBeClaimed 20 = .ok (.aload_n 0, 1) := by decide +kernel
theorem dX0_canBeClaimed_21 : decode cX0_canBeClaimed 21 = .ok (.iload_n 1, 1) := by decide +kernel
theorem dX0_canBeClaimed_22 : decode cX0_canBeClaimed 22 = .ok (.invokevirtual 106, 3) := by decide +kernel
theorem dX0_canBeClaimed_25 : decode cX0_canBeClaimed 25 = .ok (.ifCond .ne 23, 3) := by decide +kernel
theorem dX0_canBeClaimed_28 : decode cX0_canBeClaimed 28 = .ok (.aload_n 0, 1) := by decide +kernel
theorem dX0_canBeClaimed_29 : decode cX0_canBeClaimed 29 = .ok (.iload_n 1, 1) := by decide +kernel
theorem dX0_canBeClaimed_30 : decode cX0_canBeClaimed 30 = .ok (.invokevirtual 109, 3) := by decide +kernel
theorem dX0_canBeClaimed_33 : decode cX0_canBeClaimed 33 = .ok (.ifCond .ne 15, 3) := by decide +kernel
theorem dX0_canBeClaimed_36 : decode cX0_canBeClaimed 36 = .ok (.aload_n 0, 1) := by decide +kernel
theorem dX0_canBeClaimed_37 : decode cX0_canBeClaimed 37 = .ok (.getfield 24, 3) := by decide +kernel
theorem dX0_canBeClaimed_40 : decode cX0_canBeClaimed 40 = .ok (.iload_n 2, 1) := by decide +kernel
theorem dX0_canBeClaimed_41 : decode cX0_canBeClaimed 41 = .ok (.iconst 0, 1) := by decide +kernel
theorem dX0_canBeClaimed_42 : decode cX0_canBeClaimed 42 = .ok (.invokevirtual 58, 3) := by decide +kernel
theorem dX0_canBeClaimed_45 : decode cX0_canBeClaimed 45 = .ok (.ifCond .ne 5, 3) := by decide +kernel
theorem dX0_canBeClaimed_48 : decode cX0_canBeClaimed 48 = .ok (.iconst 0, 1) := by decide +kernel
theorem dX0_canBeClaimed_49 : decode cX0_canBeClaimed 49 = .ok (.ireturn, 1) := by decide +kernel
theorem dX0_canBeClaimed_50 : decode cX0_canBeClaimed 50 = .ok (.aload_n 0, 1) := by decide +kernel
theorem dX0_canBeClaimed_51 : decode cX0_canBeClaimed 51 = .ok (.getfield 11, 3) := by decide +kernel
theorem dX0_canBeClaimed_54 : decode cX0_canBeClaimed 54 = .ok (.iconst 0, 1) := by decide +kernel
theorem dX0_canBeClaimed_55 : decode cX0_canBeClaimed 55 = .ok (.iaload, 1) := by decide +kernel
theorem dX0_canBeClaimed_56 : decode cX0_canBeClaimed 56 = .ok (.iload_n 3, 1) := by decide +kernel
theorem dX0_canBeClaimed_57 : decode cX0_canBeClaimed 57 = .ok (.isub, 1) := by decide +kernel
theorem dX0_canBeClaimed_58 : decode cX0_canBeClaimed 58 = .ok (.bipush 47, 2) := by decide +kernel
theorem dX0_canBeClaimed_60 : decode cX0_canBeClaimed 60 = .ok (.if_icmp .le 5, 3) := by decide +kernel
theorem dX0_canBeClaimed_63 : decode cX0_canBeClaimed 63 = .ok (.iconst 0, 1) := by decide +kernel
theorem dX0_canBeClaimed_64 : decode cX0_canBeClaimed 64 = .ok (.ireturn, 1) := by decide +kernel
theorem dX0_canBeClaimed_65 : decode cX0_canBeClaimed 65 = .ok (.aload_n 0, 1) := by decide +kernel
theorem dX0_canBeClaimed_66 : decode cX0_canBeClaimed 66 = .ok (.iload_n 2, 1) := by decide +kernel
theorem dX0_canBeClaimed_67 : decode cX0_canBeClaimed 67 = .ok (.iload_n 3, 1) := by decide +kernel
theorem dX0_canBeClaimed_68 : decode cX0_canBeClaimed 68 = .ok (.bipush 12, 2) := by decide +kernel
theorem dX0_canBeClaimed_70 : decode cX0_canBeClaimed 70 = .ok (.idiv, 1) := by decide +kernel
theorem dX0_canBeClaimed_71 : decode cX0_canBeClaimed 71 = .ok (.invokevirtual 112, 3) := by decide +kernel
theorem dX0_canBeClaimed_74 : decode cX0_canBeClaimed 74 = .ok (.istore 4, 2) := by decide +kernel
theorem dX0_canBeClaimed_76 : decode cX0_canBeClaimed 76 = .ok (.iload 4, 2) := by decide +kernel
theorem dX0_canBeClaimed_78 : decode cX0_canBeClaimed 78 = .ok (.aload_n 0, 1) := by decide +kernel
theorem dX0_canBeClaimed_79 : decode cX0_canBeClaimed 79 = .ok (.getfield 27, 3) := by decide +kernel
theorem dX0_canBeClaimed_82 : decode cX0_canBeClaimed 82 = .ok (.iload_n 1, 1) := by decide +kernel
theorem dX0_canBeClaimed_83 : decode cX0_canBeClaimed 83 = .ok (.iconst 2, 1) := by decide +kernel
theorem dX0_canBeClaimed_84 : decode cX0_canBeClaimed 84 = .ok (.invokevirtual 58, 3) := by decide +kernel
theorem dX0_canBeClaimed_87 : decode cX0_canBeClaimed 87 = .ok (.iadd, 1) := by decide +kernel
theorem dX0_canBeClaimed_88 : decode cX0_canBeClaimed 88 = .ok (.aload_n 0, 1) := by decide +kernel
theorem dX0_canBeClaimed_89 : decode cX0_canBeClaimed 89 = .ok (.getfield 11, 3) := by decide +kernel
theorem dX0_canBeClaimed_92 : decode cX0_canBeClaimed 92 = .ok (.iconst 2, 1) := by decide +kernel
theorem dX0_canBeClaimed_93 : decode cX0_canBeClaimed 93 = .ok (.iaload, 1) := by decide +kernel
theorem dX0_canBeClaimed_94 : decode cX0_canBeClaimed 94 = .ok (.if_icmp .gt 7, 3) := by decide +kernel
theorem dX0_canBeClaimed_97 : decode cX0_canBeClaimed 97 = .ok (.iconst 1, 1) := by decide +kernel
theorem dX0_canBeClaimed_98 : decode cX0_canBeClaimed 98 = .ok (.goto 4, 3) := by decide +kernel
theorem dX0_canBeClaimed_101 : decode cX0_canBeClaimed 101 = .ok (.iconst 0, 1) := by decide +kernel
theorem dX0_canBeClaimed_102 : decode cX0_canBeClaimed 102 = .ok (.ireturn, 1) := by decide +kernel
theorem dX0_claimedInYear_0 : decode cX0_claimedInYear 0 = .ok (.iconst 0, 1) := by decide +kernel
theorem dX0_claimedInYear_1 : decode cX0_claimedInYear 1 = .ok (.istore_n 3, 1) := by decide +kernel
theorem dX0_claimedInYear_2 : decode cX0_claimedInYear 2 = .ok (.iconst 0, 1) := by decide +kernel
theorem dX0_claimedInYear_3 : decode cX0_claimedInYear 3 = .ok (.istore 4, 2) := by decide +kernel
theorem dX0_claimedInYear_5 : decode cX0_claimedInYear 5 = .ok (.iload 4, 2) := by decide +kernel
theorem dX0_claimedInYear_7 : decode cX0_claimedInYear 7 = .ok (.aload_n 0, 1) := by decide +kernel
theorem dX0_claimedInYear_8 : decode cX0_claimedInYear 8 = .ok (.getfield 27, 3) := by decide +kernel
theorem dX0_claimedInYear_11 : decode cX0_claimedInYear 11 = .ok (.invokevirtual 86, 3) := by decide +kernel
theorem dX0_claimedInYear_14 : decode cX0_claimedInYear 14 = .ok (.if_icmp .ge 80, 3) := by decide +kernel
theorem dX0_claimedInYear_17 : decode cX0_claimedInYear 17 = .ok (.aload_n 0, 1) := by decide +kernel
theorem dX0_claimedInYear_18 : decode cX0_claimedInYear 18 = .ok (.getfield 27, 3) := by decide +kernel
theorem dX0_claimedInYear_21 : decode cX0_claimedInYear 21 = .ok (.iload 4, 2) := by decide +kernel
theorem dX0_claimedInYear_23 : decode cX0_claimedInYear 23 = .ok (.iconst 0, 1) := by decide +kernel
theorem dX0_claimedInYear_24 : decode cX0_claimedInYear 24 = .ok (.invokevirtual 58, 3) := by decide +kernel
theorem dX0_claimedInYear_27 : decode cX0_claimedInYear 27 = .ok (.iload_n 1, 1) := by decide +kernel
theorem dX0_claimedInYear_28 : decode cX0_claimedInYear 28 = .ok (.if_icmp .ne 60, 3) := by decide +kernel
theorem dX0_claimedInYear_31 : decode cX0_claimedInYear 31 = .ok (.aload_n 0, 1) := by decide +kernel
theorem dX0_claimedInYear_32 : decode cX0_claimedInYear 32 = .ok (.getfield 27, 3) := by decide +kernel
theorem dX0_claimedInYear_35 : decode cX0_claimedInYear 35 = .ok (.iload 4, 2) := by decide +kernel
theorem dX0_claimedInYear_37 : decode cX0_claimedInYear 37 = .ok (.iconst 3, 1) := by decide +kernel
theorem dX0_claimedInYear_38 : decode cX0_claimedInYear 38 = .ok (.invokevirtual 58, 3) := by decide +kernel
theorem dX0_claimedInYear_41 : decode cX0_claimedInYear 41 = .ok (.bipush 12, 2) := by decide +kernel
theorem dX0_claimedInYear_43 : decode cX0_claimedInYear 43 = .ok (.idiv, 1) := by decide +kernel
theorem dX0_claimedInYear_44 : decode cX0_claimedInYear 44 = .ok (.iload_n 2, 1) := by decide +kernel
theorem dX0_claimedInYear_45 : decode cX0_claimedInYear 45 = .ok (.if_icmp .ne 43, 3) := by decide +kernel
theorem dX0_claimedInYear_48 : decode cX0_claimedInYear 48 = .ok (.aload_n 0, 1) := by decide +kernel
theorem dX0_claimedInYear_49 : decode cX0_claimedInYear 49 = .ok (.getfield 27, 3) := by decide +kernel
theorem dX0_claimedInYear_52 : decode cX0_claimedInYear 52 = .ok (.iload 4, 2) := by decide +kernel
theorem dX0_claimedInYear_54 : decode cX0_claimedInYear 54 = .ok (.iconst 4, 1) := by decide +kernel
theorem dX0_claimedInYear_55 : decode cX0_claimedInYear 55 = .ok (.invokevirtual 58, 3) := by decide +kernel
theorem dX0_claimedInYear_58 : decode cX0_claimedInYear 58 = .ok (.iconst 1, 1) := by decide +kernel
theorem dX0_claimedInYear_59 : decode cX0_claimedInYear 59 = .ok (.if_icmp .ne 29, 3) := by decide +kernel
theorem dX0_claimedInYear_62 : decode cX0_claimedInYear 62 = .ok (.aload_n 0, 1) := by decide +kernel
theorem dX0_claimedInYear_63 : decode cX0_claimedInYear 63 = .ok (.getfield 27, 3) := by decide +kernel
theorem dX0_claimedInYear_66 : decode cX0_claimedInYear 66 = .ok (.iload 4, 2) := by decide +kernel
theorem dX0_claimedInYear_68 : decode cX0_claimedInYear 68 = .ok (.iconst 5, 1) := by decide +kernel
theorem dX0_claimedInYear_69 : decode cX0_claimedInYear 69 = .ok (.invokevirtual 58, 3) := by decide +kernel
theorem dX0_claimedInYear_72 : decode cX0_claimedInYear 72 = .ok (.ifCond .ne 16, 3) := by decide +kernel
theorem dX0_claimedInYear_75 : decode cX0_claimedInYear 75 = .ok (.iload_n 3, 1) := by decide +kernel
theorem dX0_claimedInYear_76 : decode cX0_claimedInYear 76 = .ok (.aload_n 0, 1) := by decide +kernel
theorem dX0_claimedInYear_77 : decode cX0_claimedInYear 77 = .ok (.getfield 27, 3) := by decide +kernel
theorem dX0_claimedInYear_80 : decode cX0_claimedInYear 80 = .ok (.iload 4, 2) := by decide +kernel
theorem dX0_claimedInYear_82 : decode cX0_claimedInYear 82 = .ok (.iconst 2, 1) := by decide +kernel
theorem dX0_claimedInYear_83 : decode cX0_claimedInYear 83 = .ok (.invokevirtual 58, 3) := by decide +kernel
theorem dX0_claimedInYear_86 : decode cX0_claimedInYear 86 = .ok (.iadd, 1) := by decide +kernel
theorem dX0_claimedInYear_87 : decode cX0_claimedInYear 87 = .ok (.istore_n 3, 1) := by decide +kernel
theorem dX0_claimedInYear_88 : decode cX0_claimedInYear 88 = .ok (.iinc 4 1, 3) := by decide +kernel
theorem dX0_claimedInYear_91 : decode cX0_claimedInYear 91 = .ok (.goto (-86), 3) := by decide +kernel
theorem dX0_claimedInYear_94 : decode cX0_claimedInYear 94 = .ok (.iload_n 3, 1) := by decide +kernel
theorem dX0_claimedInYear_95 : decode cX0_claimedInYear 95 = .ok (.ireturn, 1) := by decide +kernel
theorem dX0_spendOn_0 : decode cX0_spendOn 0 = .ok (.aload_n 0, 1) := by decide +kernel
theorem dX0_spendOn_1 : decode cX0_spendOn 1 = .ok (.getfield 20, 3) := by decide +kernel
theorem dX0_spendOn_4 : decode cX0_spendOn 4 = .ok (.iload_n 1, 1) := by decide +kernel
theorem dX0_spendOn_5 : decode cX0_spendOn 5 = .ok (.invokevirtual 50, 3) := by decide +kernel
theorem dX0_spendOn_8 : decode cX0_spendOn 8 = .ok (.ifCond .eq 14, 3) := by decide +kernel
theorem dX0_spendOn_11 : decode cX0_spendOn 11 = .ok (.iload_n 2, 1) := by decide +kernel
theorem dX0_spendOn_12 : decode cX0_spendOn 12 = .ok (.iconst 1, 1) := by decide +kernel
theorem dX0_spendOn_13 : decode cX0_spendOn 13 = .ok (.sipush 9999, 3) := by decide +kernel
theorem dX0_spendOn_16 : decode cX0_spendOn 16 = .ok (.invokestatic 54, 3) := by decide +kernel
theorem dX0_spendOn_19 : decode cX0_spendOn 19 = .ok (.ifCond .ne 5, 3) := by decide +kernel
theorem dX0_spendOn_22 : decode cX0_spendOn 22 = .ok (.iconst (-1), 1) := by decide +kernel
theorem dX0_spendOn_23 : decode cX0_spendOn 23 = .ok (.ireturn, 1) := by decide +kernel
theorem dX0_spendOn_24 : decode cX0_spendOn 24 = .ok (.aload_n 0, 1) := by decide +kernel
theorem dX0_spendOn_25 : decode cX0_spendOn 25 = .ok (.iload_n 1, 1) := by decide +kernel
theorem dX0_spendOn_26 : decode cX0_spendOn 26 = .ok (.invokevirtual 62, 3) := by decide +kernel
theorem dX0_spendOn_29 : decode cX0_spendOn 29 = .ok (.ifCond .eq 6, 3) := by decide +kernel
theorem dX0_spendOn_32 : decode cX0_spendOn 32 = .ok (.bipush (-2), 2) := by decide +kernel
theorem dX0_spendOn_34 : decode cX0_spendOn 34 = .ok (.ireturn, 1) := by decide +kernel
theorem dX0_spendOn_35 : decode cX0_spendOn 35 = .ok (.iconst 0, 1) := by decide +kernel
theorem dX0_spendOn_36 : decode cX0_spendOn 36 = .ok (.iload_n 2, 1) := by decide +kernel
theorem dX0_spendOn_37 : decode cX0_spendOn 37 = .ok (.aload_n 0, 1) := by decide +kernel
theorem dX0_spendOn_38 : decode cX0_spendOn 38 = .ok (.iload_n 1, 1) := by decide +kernel
theorem dX0_spendOn_39 : decode cX0_spendOn 39 = .ok (.invokevirtual 115, 3) := by decide +kernel
theorem dX0_spendOn_42 : decode cX0_spendOn 42 = .ok (.isub, 1) := by decide +kernel
theorem dX0_spendOn_43 : decode cX0_spendOn 43 = .ok (.invokestatic 118, 3) := by decide +kernel
theorem dX0_spendOn_46 : decode cX0_spendOn 46 = .ok (.istore_n 3, 1) := by decide +kernel
theorem dX0_spendOn_47 : decode cX0_spendOn 47 = .ok (.iload_n 3, 1) := by decide +kernel
theorem dX0_spendOn_48 : decode cX0_spendOn 48 = .ok (.ifCond .le 19, 3) := by decide +kernel
theorem dX0_spendOn_51 : decode cX0_spendOn 51 = .ok (.iload_n 1, 1) := by decide +kernel
theorem dX0_spendOn_52 : decode cX0_spendOn 52 = .ok (.ifCond .eq 12, 3) := by decide +kernel
theorem dX0_spendOn_55 : decode cX0_spendOn 55 = .ok (.aload_n 0, 1) := by decide +kernel
theorem dX0_spendOn_56 : decode cX0_spendOn 56 = .ok (.iconst 0, 1) := by decide +kernel
theorem dX0_spendOn_57 : decode cX0_spendOn 57 = .ok (.invokevirtual 115, 3) := by decide +kernel
theorem dX0_spendOn_60 : decode cX0_spendOn 60 = .ok (.iload_n 3, 1) := by decide +kernel
theorem dX0_spendOn_61 : decode cX0_spendOn 61 = .ok (.if_icmp .ge 6, 3) := by decide +kernel
theorem dX0_spendOn_64 : decode cX0_spendOn 64 = .ok (.bipush (-2), 2) := by decide +kernel
theorem dX0_spendOn_66 : decode cX0_spendOn 66 = .ok (.ireturn, 1) := by decide +kernel
theorem dX0_spendOn_67 : decode cX0_spendOn 67 = .ok (.aload_n 0, 1) := by decide +kernel
theorem dX0_spendOn_68 : decode cX0_spendOn 68 = .ok (.getfield 20, 3) := by decide +kernel
theorem dX0_spendOn_71 : decode cX0_spendOn 71 = .ok (.iload_n 1, 1) := by decide +kernel
theorem dX0_spendOn_72 : decode cX0_spendOn 72 = .ok (.iconst 0, 1) := by decide +kernel
theorem dX0_spendOn_73 : decode cX0_spendOn 73 = .ok (.iload_n 3, 1) := by decide +kernel
theorem dX0_spendOn_74 : decode cX0_spendOn 74 = .ok (.iload_n 2, 1) := by decide +kernel
theorem dX0_spendOn_75 : decode cX0_spendOn 75 = .ok (.isub, 1) := by decide +kernel
theorem dX0_spendOn_76 : decode cX0_spendOn 76 = .ok (.invokevirtual 73, 3) := by decide +kernel
theorem dX0_spendOn_79 : decode cX0_spendOn 79 = .ok (.aload_n 0, 1) := by decide +kernel
theorem dX0_spendOn_80 : decode cX0_spendOn 80 = .ok (.getfield 20, 3) := by decide +kernel
theorem dX0_spendOn_83 : decode cX0_spendOn 83 = .ok (.iload_n 1, 1) := by decide +kernel
theorem dX0_spendOn_84 : decode cX0_spendOn 84 = .ok (.iconst 3, 1) := by decide +kernel
theorem dX0_spendOn_85 : decode cX0_spendOn 85 = .ok (.iload_n 2, 1) := by decide +kernel
theorem dX0_spendOn_86 : decode cX0_spendOn 86 = .ok (.invokevirtual 73, 3) := by decide +kernel
theorem dX0_spendOn_89 : decode cX0_spendOn 89 = .ok (.aload_n 0, 1) := by decide +kernel
theorem dX0_spendOn_90 : decode cX0_spendOn 90 = .ok (.getfield 20, 3) := by decide +kernel
theorem dX0_spendOn_93 : decode cX0_spendOn 93 = .ok (.iload_n 1, 1) := by decide +kernel
theorem dX0_spendOn_94 : decode cX0_spendOn 94 = .ok (.iconst 4, 1) := by decide +kernel
theorem dX0_spendOn_95 : decode cX0_spendOn 95 = .ok (.iload_n 3, 1) := by decide +kernel
theorem dX0_spendOn_96 : decode cX0_spendOn 96 = .ok (.invokevirtual 73, 3) := by decide +kernel
theorem dX0_spendOn_99 : decode cX0_spendOn 99 = .ok (.aload_n 0, 1) := by decide +kernel
theorem dX0_spendOn_100 : decode cX0_spendOn 100 = .ok (.getfield 20, 3) := by decide +kernel
theorem dX0_spendOn_103 : decode cX0_spendOn 103 = .ok (.iconst 0, 1) := by decide +kernel
theorem dX0_spendOn_104 : decode cX0_spendOn 104 = .ok (.iconst 0, 1) := by decide +kernel
theorem dX0_spendOn_105 : decode cX0_spendOn 105 = .ok (.iload_n 3, 1) := by decide +kernel
theorem dX0_spendOn_106 : decode cX0_spendOn 106 = .ok (.ineg, 1) := by decide +kernel
theorem dX0_spendOn_107 : decode cX0_spendOn 107 = .ok (.invokevirtual 73, 3) := by decide +kernel
theorem dX0_spendOn_110 : decode cX0_spendOn 110 = .ok (.aload_n 0, 1) := by decide +kernel
theorem dX0_spendOn_111 : decode cX0_spendOn 111 = .ok (.getfield 20, 3) := by decide +kernel
theorem dX0_spendOn_114 : decode cX0_spendOn 114 = .ok (.iconst 0, 1) := by decide +kernel
theorem dX0_spendOn_115 : decode cX0_spendOn 115 = .ok (.bipush 11, 2) := by decide +kernel
theorem dX0_spendOn_117 : decode cX0_spendOn 117 = .ok (.iload_n 3, 1) := by decide +kernel
theorem dX0_spendOn_118 : decode cX0_spendOn 118 = .ok (.invokevirtual 73, 3) := by decide +kernel
theorem dX0_spendOn_121 : decode cX0_spendOn 121 = .ok (.iload_n 3, 1) := by decide +kernel
theorem dX0_spendOn_122 : decode cX0_spendOn 122 = .ok (.ireturn, 1) := by decide +kernel
theorem dX0_refundGift_0 : decode cX0_refundGift 0 = .ok (.aload_n 0, 1) := by decide +kernel
theorem dX0_refundGift_1 : decode cX0_refundGift 1 = .ok (.getfield 27, 3) := by decide +kernel
theorem dX0_refundGift_4 : decode cX0_refundGift 4 = .ok (.iload_n 1, 1) := by decide +kernel
theorem dX0_refundGift_5 : decode cX0_refundGift 5 = .ok (.invokevirtual 50, 3) := by decide +kernel
theorem dX0_refundGift_8 : decode cX0_refundGift 8 = .ok (.ifCond .ne 5, 3) := by decide +kernel
theorem dX0_refundGift_11 : decode cX0_refundGift 11 = .ok (.iconst (-1), 1) := by decide +kernel
theorem dX0_refundGift_12 : decode cX0_refundGift 12 = .ok (.ireturn, 1) := by decide +kernel
theorem dX0_refundGift_13 : decode cX0_refundGift 13 = .ok (.aload_n 0, 1) := by decide +kernel
theorem dX0_refundGift_14 : decode cX0_refundGift 14 = .ok (.getfield 27, 3) := by decide +kernel
theorem dX0_refundGift_17 : decode cX0_refundGift 17 = .ok (.iload_n 1, 1) := by decide +kernel
theorem dX0_refundGift_18 : decode cX0_refundGift 18 = .ok (.iconst 2, 1) := by decide +kernel
theorem dX0_refundGift_19 : decode cX0_refundGift 19 = .ok (.invokevirtual 58, 3) := by decide +kernel
theorem dX0_refundGift_22 : decode cX0_refundGift 22 = .ok (.istore_n 2, 1) := by decide +kernel
theorem dX0_refundGift_23 : decode cX0_refundGift 23 = .ok (.aload_n 0, 1) := by decide +kernel
theorem dX0_refundGift_24 : decode cX0_refundGift 24 = .ok (.iload_n 1, 1) := by decide +kernel
theorem dX0_refundGift_25 : decode cX0_refundGift 25 = .ok (.invokevirtual 106, 3) := by decide +kernel
theorem dX0_refundGift_28 : decode cX0_refundGift 28 = .ok (.ifCond .eq 11, 3) := by decide +kernel
theorem dX0_refundGift_31 : decode cX0_refundGift 31 = .ok (.aload_n 0, 1) := by decide +kernel
theorem dX0_refundGift_32 : decode cX0_refundGift 32 = .ok (.iload_n 1, 1) := by decide +kernel
theorem dX0_refundGift_33 : decode cX0_refundGift 33 = .ok (.invokevirtual 103, 3) := by decide +kernel
theorem dX0_refundGift_36 : decode cX0_refundGift 36 = .ok (.goto 4, 3) := by decide +kernel
theorem dX0_refundGift_39 : decode cX0_refundGift 39 = .ok (.iconst 0, 1) := by decide +kernel
theorem dX0_refundGift_40 : decode cX0_refundGift 40 = .ok (.istore_n 3, 1) := by decide +kernel
theorem dX0_refundGift_41 : decode cX0_refundGift 41 = .ok (.aload_n 0, 1) := by decide +kernel
theorem dX0_refundGift_42 : decode cX0_refundGift 42 = .ok (.iload_n 1, 1) := by decide +kernel
theorem dX0_refundGift_43 : decode cX0_refundGift 43 = .ok (.invokevirtual 99, 3) := by decide +kernel
theorem dX0_refundGift_46 : decode cX0_refundGift 46 = .ok (.istore 4, 2) := by decide +kernel
theorem dX0_refundGift_48 : decode cX0_refundGift 48 = .ok (.aload_n 0, 1) := by decide +kernel
theorem dX0_refundGift_49 : decode cX0_refundGift 49 = .ok (.iload_n 1, 1) := by decide +kernel
theorem dX0_refundGift_50 : decode cX0_refundGift 50 = .ok (.invokevirtual 109, 3) := by decide +kernel
theorem dX0_refundGift_53 : decode cX0_refundGift 53 = .ok (.ifCond .ne 15, 3) := by decide +kernel
theorem dX0_refundGift_56 : decode cX0_refundGift 56 = .ok (.aload_n 0, 1) := by decide +kernel
theorem dX0_refundGift_57 : decode cX0_refundGift 57 = .ok (.iload 4, 2) := by decide +kernel
theorem dX0_refundGift_59 : decode cX0_refundGift 59 = .ok (.invokevirtual 115, 3) := by decide +kernel
theorem dX0_refundGift_62 : decode cX0_refundGift 62 = .ok (.iload_n 2, 1) := by decide +kernel
theorem dX0_refundGift_63 : decode cX0_refundGift 63 = .ok (.iload_n 3, 1) := by decide +kernel
theorem dX0_refundGift_64 : decode cX0_refundGift 64 = .ok (.iadd, 1) := by decide +kernel
theorem dX0_refundGift_65 : decode cX0_refundGift 65 = .ok (.if_icmp .ge 6, 3) := by decide +kernel
theorem dX0_refundGift_68 : decode cX0_refundGift 68 = .ok (.bipush (-2), 2) := by decide +kernel
theorem dX0_refundGift_70 : decode cX0_refundGift 70 = .ok (.ireturn, 1) := by decide +kernel
theorem dX0_refundGift_71 : decode cX0_refundGift 71 = .ok (.aload_n 0, 1) := by decide +kernel
theorem dX0_refundGift_72 : decode cX0_refundGift 72 = .ok (.getfield 27, 3) := by decide +kernel
theorem dX0_refundGift_75 : decode cX0_refundGift 75 = .ok (.iload_n 1, 1) := by decide +kernel
theorem dX0_refundGift_76 : decode cX0_refundGift 76 = .ok (.iconst 5, 1) := by decide +kernel
theorem dX0_refundGift_77 : decode cX0_refundGift 77 = .ok (.iconst 1, 1) := by decide +kernel
theorem dX0_refundGift_78 : decode cX0_refundGift 78 = .ok (.invokevirtual 46, 3) := by decide +kernel
theorem dX0_refundGift_81 : decode cX0_refundGift 81 = .ok (.aload_n 0, 1) := by decide +kernel
theorem dX0_refundGift_82 : decode cX0_refundGift 82 = .ok (.getfield 20, 3) := by decide +kernel
theorem dX0_refundGift_85 : decode cX0_refundGift 85 = .ok (.iload 4, 2) := by decide +kernel
theorem dX0_refundGift_87 : decode cX0_refundGift 87 = .ok (.iconst 0, 1) := by decide +kernel
theorem dX0_refundGift_88 : decode cX0_refundGift 88 = .ok (.iload_n 2, 1) := by decide +kernel
theorem dX0_refundGift_89 : decode cX0_refundGift 89 = .ok (.ineg, 1) := by decide +kernel
theorem dX0_refundGift_90 : decode cX0_refundGift 90 = .ok (.iload_n 3, 1) := by decide +kernel
theorem dX0_refundGift_91 : decode cX0_refundGift 91 = .ok (.isub, 1) := by decide +kernel
theorem dX0_refundGift_92 : decode cX0_refundGift 92 = .ok (.invokevirtual 73, 3) := by decide +kernel
theorem dX0_refundGift_95 : decode cX0_refundGift 95 = .ok (.aload_n 0, 1) := by decide +kernel
theorem dX0_refundGift_96 : decode cX0_refundGift 96 = .ok (.getfield 20, 3) := by decide +kernel
theorem dX0_refundGift_99 : decode cX0_refundGift 99 = .ok (.iload 4, 2) := by decide +kernel
theorem dX0_refundGift_101 : decode cX0_refundGift 101 = .ok (.iconst 5, 1) := by decide +kernel
theorem dX0_refundGift_102 : decode cX0_refundGift 102 = .ok (.iload_n 2, 1) := by decide +kernel
theorem dX0_refundGift_103 : decode cX0_refundGift 103 = .ok (.invokevirtual 73, 3) := by decide +kernel
theorem dX0_refundGift_106 : decode cX0_refundGift 106 = .ok (.aload_n 0, 1) := by decide +kernel
theorem dX0_refundGift_107 : decode cX0_refundGift 107 = .ok (.getfield 20, 3) := by decide +kernel
theorem dX0_refundGift_110 : decode cX0_refundGift 110 = .ok (.iload 4, 2) := by decide +kernel
theorem dX0_refundGift_112 : decode cX0_refundGift 112 = .ok (.bipush 6, 2) := by decide +kernel
theorem dX0_refundGift_114 : decode cX0_refundGift 114 = .ok (.iload_n 3, 1) := by decide +kernel
theorem dX0_refundGift_115 : decode cX0_refundGift 115 = .ok (.invokevirtual 73, 3) := by decide +kernel
theorem dX0_refundGift_118 : decode cX0_refundGift 118 = .ok (.iload_n 3, 1) := by decide +kernel
theorem dX0_refundGift_119 : decode cX0_refundGift 119 = .ok (.ireturn, 1) := by decide +kernel
theorem dX0_consentTo_0 : decode cX0_consentTo 0 = .ok (.aload_n 0, 1) := by decide +kernel
theorem dX0_consentTo_1 : decode cX0_consentTo 1 = .ok (.getfield 24, 3) := by decide +kernel
theorem dX0_consentTo_4 : decode cX0_consentTo 4 = .ok (.iload_n 1, 1) := by decide +kernel
theorem dX0_consentTo_5 : decode cX0_consentTo 5 = .ok (.invokevirtual 50, 3) := by decide +kernel
theorem dX0_consentTo_8 : decode cX0_consentTo 8 = .ok (.ifCond .eq 12, 3) := by decide +kernel
theorem dX0_consentTo_11 : decode cX0_consentTo 11 = .ok (.aload_n 0, 1) := by decide +kernel
theorem dX0_consentTo_12 : decode cX0_consentTo 12 = .ok (.iload_n 2, 1) := by decide +kernel
theorem dX0_consentTo_13 : decode cX0_consentTo 13 = .ok (.iload_n 3, 1) := by decide +kernel
theorem dX0_consentTo_14 : decode cX0_consentTo 14 = .ok (.invokevirtual 123, 3) := by decide +kernel
theorem dX0_consentTo_17 : decode cX0_consentTo 17 = .ok (.ifCond .ne 5, 3) := by decide +kernel
theorem dX0_consentTo_20 : decode cX0_consentTo 20 = .ok (.iconst (-1), 1) := by decide +kernel
theorem dX0_consentTo_21 : decode cX0_consentTo 21 = .ok (.ireturn, 1) := by decide +kernel
theorem dX0_consentTo_22 : decode cX0_consentTo 22 = .ok (.aload_n 0, 1) := by decide +kernel
theorem dX0_consentTo_23 : decode cX0_consentTo 23 = .ok (.iload_n 2, 1) := by decide +kernel
theorem dX0_consentTo_24 : decode cX0_consentTo 24 = .ok (.iload_n 3, 1) := by decide +kernel
theorem dX0_consentTo_25 : decode cX0_consentTo 25 = .ok (.invokevirtual 126, 3) := by decide +kernel
theorem dX0_consentTo_28 : decode cX0_consentTo 28 = .ok (.ifCond .ne 6, 3) := by decide +kernel
theorem dX0_consentTo_31 : decode cX0_consentTo 31 = .ok (.bipush (-2), 2) := by decide +kernel
theorem dX0_consentTo_33 : decode cX0_consentTo 33 = .ok (.ireturn, 1) := by decide +kernel
theorem dX0_consentTo_34 : decode cX0_consentTo 34 = .ok (.aload_n 0, 1) := by decide +kernel
theorem dX0_consentTo_35 : decode cX0_consentTo 35 = .ok (.getfield 24, 3) := by decide +kernel
theorem dX0_consentTo_38 : decode cX0_consentTo 38 = .ok (.iload_n 1, 1) := by decide +kernel
theorem dX0_consentTo_39 : decode cX0_consentTo 39 = .ok (.iconst 1, 1) := by decide +kernel
theorem dX0_consentTo_40 : decode cX0_consentTo 40 = .ok (.iload_n 2, 1) := by decide +kernel
theorem dX0_consentTo_41 : decode cX0_consentTo 41 = .ok (.iadd, 1) := by decide +kernel
theorem dX0_consentTo_42 : decode cX0_consentTo 42 = .ok (.iload_n 3, 1) := by decide +kernel
theorem dX0_consentTo_43 : decode cX0_consentTo 43 = .ok (.invokevirtual 46, 3) := by decide +kernel
theorem dX0_consentTo_46 : decode cX0_consentTo 46 = .ok (.aload_n 0, 1) := by decide +kernel
theorem dX0_consentTo_47 : decode cX0_consentTo 47 = .ok (.iload_n 1, 1) := by decide +kernel
theorem dX0_consentTo_48 : decode cX0_consentTo 48 = .ok (.iload_n 2, 1) := by decide +kernel
theorem dX0_consentTo_49 : decode cX0_consentTo 49 = .ok (.invokevirtual 129, 3) := by decide +kernel
theorem dX0_consentTo_52 : decode cX0_consentTo 52 = .ok (.ireturn, 1) := by decide +kernel
theorem dX0_mergePurpose_0 : decode cX0_mergePurpose 0 = .ok (.aload_n 0, 1) := by decide +kernel
theorem dX0_mergePurpose_1 : decode cX0_mergePurpose 1 = .ok (.iload_n 1, 1) := by decide +kernel
theorem dX0_mergePurpose_2 : decode cX0_mergePurpose 2 = .ok (.iload_n 2, 1) := by decide +kernel
theorem dX0_mergePurpose_3 : decode cX0_mergePurpose 3 = .ok (.invokevirtual 123, 3) := by decide +kernel
theorem dX0_mergePurpose_6 : decode cX0_mergePurpose 6 = .ok (.ifCond .ne 5, 3) := by decide +kernel
theorem dX0_mergePurpose_9 : decode cX0_mergePurpose 9 = .ok (.iconst (-1), 1) := by decide +kernel
theorem dX0_mergePurpose_10 : decode cX0_mergePurpose 10 = .ok (.ireturn, 1) := by decide +kernel
theorem dX0_mergePurpose_11 : decode cX0_mergePurpose 11 = .ok (.aload_n 0, 1) := by decide +kernel
theorem dX0_mergePurpose_12 : decode cX0_mergePurpose 12 = .ok (.iload_n 1, 1) := by decide +kernel
theorem dX0_mergePurpose_13 : decode cX0_mergePurpose 13 = .ok (.invokevirtual 132, 3) := by decide +kernel
theorem dX0_mergePurpose_16 : decode cX0_mergePurpose 16 = .ok (.istore_n 3, 1) := by decide +kernel
theorem dX0_mergePurpose_17 : decode cX0_mergePurpose 17 = .ok (.aload_n 0, 1) := by decide +kernel
theorem dX0_mergePurpose_18 : decode cX0_mergePurpose 18 = .ok (.iload_n 1, 1) := by decide +kernel
theorem dX0_mergePurpose_19 : decode cX0_mergePurpose 19 = .ok (.iload_n 2, 1) := by decide +kernel
theorem dX0_mergePurpose_20 : decode cX0_mergePurpose 20 = .ok (.invokevirtual 135, 3) := by decide +kernel
theorem dX0_mergePurpose_23 : decode cX0_mergePurpose 23 = .ok (.bipush 100, 2) := by decide +kernel
theorem dX0_mergePurpose_25 : decode cX0_mergePurpose 25 = .ok (.imul, 1) := by decide +kernel
theorem dX0_mergePurpose_26 : decode cX0_mergePurpose 26 = .ok (.aload_n 0, 1) := by decide +kernel
theorem dX0_mergePurpose_27 : decode cX0_mergePurpose 27 = .ok (.getfield 11, 3) := by decide +kernel
theorem dX0_mergePurpose_30 : decode cX0_mergePurpose 30 = .ok (.iconst 1, 1) := by decide +kernel
theorem dX0_mergePurpose_31 : decode cX0_mergePurpose 31 = .ok (.iaload, 1) := by decide +kernel
theorem dX0_mergePurpose_32 : decode cX0_mergePurpose 32 = .ok (.iload_n 3, 1) := by decide +kernel
theorem dX0_mergePurpose_33 : decode cX0_mergePurpose 33 = .ok (.imul, 1) := by decide +kernel
theorem dX0_mergePurpose_34 : decode cX0_mergePurpose 34 = .ok (.if_icmp .lt 7, 3) := by decide +kernel
theorem dX0_mergePurpose_37 : decode cX0_mergePurpose 37 = .ok (.iconst 1, 1) := by decide +kernel
theorem dX0_mergePurpose_38 : decode cX0_mergePurpose 38 = .ok (.goto 4, 3) := by decide +kernel
theorem dX0_mergePurpose_41 : decode cX0_mergePurpose 41 = .ok (.iconst 0, 1) := by decide +kernel
theorem dX0_mergePurpose_42 : decode cX0_mergePurpose 42 = .ok (.istore 4, 2) := by decide +kernel
theorem dX0_mergePurpose_44 : decode cX0_mergePurpose 44 = .ok (.aload_n 0, 1) := by decide +kernel
theorem dX0_mergePurpose_45 : decode cX0_mergePurpose 45 = .ok (.iload_n 1, 1) := by decide +kernel
theorem dX0_mergePurpose_46 : decode cX0_mergePurpose 46 = .ok (.iload_n 2, 1) := by decide +kernel
theorem dX0_mergePurpose_47 : decode cX0_mergePurpose 47 = .ok (.invokevirtual 126, 3) := by decide +kernel
theorem dX0_mergePurpose_50 : decode cX0_mergePurpose 50 = .ok (.ifCond .eq 12, 3) := by decide +kernel
theorem dX0_mergePurpose_53 : decode cX0_mergePurpose 53 = .ok (.iload_n 3, 1) := by decide +kernel
theorem dX0_mergePurpose_54 : decode cX0_mergePurpose 54 = .ok (.ifCond .eq 8, 3) := by decide +kernel
theorem dX0_mergePurpose_57 : decode cX0_mergePurpose 57 = .ok (.iload 4, 2) := by decide +kernel
theorem dX0_mergePurpose_59 : decode cX0_mergePurpose 59 = .ok (.ifCond .ne 6, 3) := by decide +kernel
theorem dX0_mergePurpose_62 : decode cX0_mergePurpose 62 = .ok (.bipush (-2), 2) := by decide +kernel
theorem dX0_mergePurpose_64 : decode cX0_mergePurpose 64 = .ok (.ireturn, 1) := by decide +kernel
theorem dX0_mergePurpose_65 : decode cX0_mergePurpose 65 = .ok (.aload_n 0, 1) := by decide +kernel
theorem dX0_mergePurpose_66 : decode cX0_mergePurpose 66 = .ok (.iload_n 1, 1) := by decide +kernel
theorem dX0_mergePurpose_67 : decode cX0_mergePurpose 67 = .ok (.iload_n 2, 1) := by decide +kernel
theorem dX0_mergePurpose_68 : decode cX0_mergePurpose 68 = .ok (.invokevirtual 138, 3) := by decide +kernel
theorem dX0_mergePurpose_71 : decode cX0_mergePurpose 71 = .ok (.aload_n 0, 1) := by decide +kernel
theorem dX0_mergePurpose_72 : decode cX0_mergePurpose 72 = .ok (.iload_n 1, 1) := by decide +kernel
theorem dX0_mergePurpose_73 : decode cX0_mergePurpose 73 = .ok (.invokevirtual 142, 3) := by decide +kernel
theorem dX0_mergePurpose_76 : decode cX0_mergePurpose 76 = .ok (.aload_n 0, 1) := by decide +kernel
theorem dX0_mergePurpose_77 : decode cX0_mergePurpose 77 = .ok (.iload_n 1, 1) := by decide +kernel
theorem dX0_mergePurpose_78 : decode cX0_mergePurpose 78 = .ok (.iload_n 2, 1) := by decide +kernel
theorem dX0_mergePurpose_79 : decode cX0_mergePurpose 79 = .ok (.invokevirtual 145, 3) := by decide +kernel
theorem dX0_mergePurpose_82 : decode cX0_mergePurpose 82 = .ok (.aload_n 0, 1) := by decide +kernel
theorem dX0_mergePurpose_83 : decode cX0_mergePurpose 83 = .ok (.iload_n 1, 1) := by decide +kernel
theorem dX0_mergePurpose_84 : decode cX0_mergePurpose 84 = .ok (.iload_n 2, 1) := by decide +kernel
theorem dX0_mergePurpose_85 : decode cX0_mergePurpose 85 = .ok (.invokevirtual 148, 3) := by decide +kernel
theorem dX0_mergePurpose_88 : decode cX0_mergePurpose 88 = .ok (.ireturn, 1) := by decide +kernel
theorem dX0_tellConsents_0 : decode cX0_tellConsents 0 = .ok (.aload_n 0, 1) := by decide +kernel
theorem dX0_tellConsents_1 : decode cX0_tellConsents 1 = .ok (.iload_n 1, 1) := by decide +kernel
theorem dX0_tellConsents_2 : decode cX0_tellConsents 2 = .ok (.iload_n 2, 1) := by decide +kernel
theorem dX0_tellConsents_3 : decode cX0_tellConsents 3 = .ok (.invokevirtual 123, 3) := by decide +kernel
theorem dX0_tellConsents_6 : decode cX0_tellConsents 6 = .ok (.ifCond .ne 5, 3) := by decide +kernel
theorem dX0_tellConsents_9 : decode cX0_tellConsents 9 = .ok (.iconst (-1), 1) := by decide +kernel
theorem dX0_tellConsents_10 : decode cX0_tellConsents 10 = .ok (.ireturn, 1) := by decide +kernel
theorem dX0_tellConsents_11 : decode cX0_tellConsents 11 = .ok (.aload_n 0, 1) := by decide +kernel
theorem dX0_tellConsents_12 : decode cX0_tellConsents 12 = .ok (.iload_n 1, 1) := by decide +kernel
theorem dX0_tellConsents_13 : decode cX0_tellConsents 13 = .ok (.invokevirtual 132, 3) := by decide +kernel
theorem dX0_tellConsents_16 : decode cX0_tellConsents 16 = .ok (.istore_n 3, 1) := by decide +kernel
theorem dX0_tellConsents_17 : decode cX0_tellConsents 17 = .ok (.iload_n 3, 1) := by decide +kernel
theorem dX0_tellConsents_18 : decode cX0_tellConsents 18 = .ok (.ifCond .le 17, 3) := by decide +kernel
theorem dX0_tellConsents_21 : decode cX0_tellConsents 21 = .ok (.aload_n 0, 1) := by decide +kernel
theorem dX0_tellConsents_22 : decode cX0_tellConsents 22 = .ok (.iload_n 1, 1) := by decide +kernel
theorem dX0_tellConsents_23 : decode cX0_tellConsents 23 = .ok (.iload_n 2, 1) := by decide +kernel
theorem dX0_tellConsents_24 : decode cX0_tellConsents 24 = .ok (.invokevirtual 135, 3) := by decide +kernel
theorem dX0_tellConsents_27 : decode cX0_tellConsents 27 = .ok (.bipush 100, 2) := by decide +kernel
theorem dX0_tellConsents_29 : decode cX0_tellConsents 29 = .ok (.imul, 1) := by decide +kernel
theorem dX0_tellConsents_30 : decode cX0_tellConsents 30 = .ok (.iload_n 3, 1) := by decide +kernel
theorem dX0_tellConsents_31 : decode cX0_tellConsents 31 = .ok (.idiv, 1) := by decide +kernel
theorem dX0_tellConsents_32 : decode cX0_tellConsents 32 = .ok (.goto 5, 3) := by decide +kernel
theorem dX0_tellConsents_35 : decode cX0_tellConsents 35 = .ok (.bipush (-4), 2) := by decide +kernel
theorem dX0_tellConsents_37 : decode cX0_tellConsents 37 = .ok (.ireturn, 1) := by decide +kernel
theorem dX0_areTwoPurposes_0 : decode cX0_areTwoPurposes 0 = .ok (.aload_n 0, 1) := by decide +kernel
theorem dX0_areTwoPurposes_1 : decode cX0_areTwoPurposes 1 = .ok (.getfield 20, 3) := by decide +kernel
theorem dX0_areTwoPurposes_4 : decode cX0_areTwoPurposes 4 = .ok (.iload_n 1, 1) := by decide +kernel
theorem dX0_areTwoPurposes_5 : decode cX0_areTwoPurposes 5 = .ok (.invokevirtual 50, 3) := by decide +kernel
theorem dX0_areTwoPurposes_8 : decode cX0_areTwoPurposes 8 = .ok (.ifCond .eq 23, 3) := by decide +kernel
theorem dX0_areTwoPurposes_11 : decode cX0_areTwoPurposes 11 = .ok (.aload_n 0, 1) := by decide +kernel
theorem dX0_areTwoPurposes_12 : decode cX0_areTwoPurposes 12 = .ok (.getfield 20, 3) := by decide +kernel
theorem dX0_areTwoPurposes_15 : decode cX0_areTwoPurposes 15 = .ok (.iload_n 2, 1) := by decide +kernel
theorem dX0_areTwoPurposes_16 : decode cX0_areTwoPurposes 16 = .ok (.invokevirtual 50, 3) := by decide +kernel
theorem dX0_areTwoPurposes_19 : decode cX0_areTwoPurposes 19 = .ok (.ifCond .eq 12, 3) := by decide +kernel
theorem dX0_areTwoPurposes_22 : decode cX0_areTwoPurposes 22 = .ok (.iload_n 1, 1) := by decide +kernel
theorem dX0_areTwoPurposes_23 : decode cX0_areTwoPurposes 23 = .ok (.iload_n 2, 1) := by decide +kernel
theorem dX0_areTwoPurposes_24 : decode cX0_areTwoPurposes 24 = .ok (.if_icmp .eq 7, 3) := by decide +kernel
theorem dX0_areTwoPurposes_27 : decode cX0_areTwoPurposes 27 = .ok (.iconst 1, 1) := by decide +kernel
theorem dX0_areTwoPurposes_28 : decode cX0_areTwoPurposes 28 = .ok (.goto 4, 3) := by decide +kernel
theorem dX0_areTwoPurposes_31 : decode cX0_areTwoPurposes 31 = .ok (.iconst 0, 1) := by decide +kernel
theorem dX0_areTwoPurposes_32 : decode cX0_areTwoPurposes 32 = .ok (.ireturn, 1) := by decide +kernel
theorem dX0_areMergeable_0 : decode cX0_areMergeable 0 = .ok (.iload_n 1, 1) := by decide +kernel
theorem dX0_areMergeable_1 : decode cX0_areMergeable 1 = .ok (.ifCond .eq 23, 3) := by decide +kernel
theorem dX0_areMergeable_4 : decode cX0_areMergeable 4 = .ok (.aload_n 0, 1) := by decide +kernel
theorem dX0_areMergeable_5 : decode cX0_areMergeable 5 = .ok (.iload_n 1, 1) := by decide +kernel
theorem dX0_areMergeable_6 : decode cX0_areMergeable 6 = .ok (.invokevirtual 62, 3) := by decide +kernel
theorem dX0_areMergeable_9 : decode cX0_areMergeable 9 = .ok (.ifCond .ne 15, 3) := by decide +kernel
theorem dX0_areMergeable_12 : decode cX0_areMergeable 12 = .ok (.aload_n 0, 1) := by decide +kernel
theorem dX0_areMergeable_13 : decode cX0_areMergeable 13 = .ok (.iload_n 2, 1) := by decide +kernel
theorem dX0_areMergeable_14 : decode cX0_areMergeable 14 = .ok (.invokevirtual 62, 3) := by decide +kernel
theorem dX0_areMergeable_17 : decode cX0_areMergeable 17 = .ok (.ifCond .ne 7, 3) := by decide +kernel
theorem dX0_areMergeable_20 : decode cX0_areMergeable 20 = .ok (.iconst 1, 1) := by decide +kernel
theorem dX0_areMergeable_21 : decode cX0_areMergeable 21 = .ok (.goto 4, 3) := by decide +kernel
theorem dX0_areMergeable_24 : decode cX0_areMergeable 24 = .ok (.iconst 0, 1) := by decide +kernel
theorem dX0_areMergeable_25 : decode cX0_areMergeable 25 = .ok (.ireturn, 1) := by decide +kernel
theorem dX0_agreesTo_0 : decode cX0_agreesTo 0 = .ok (.aload_n 0, 1) := by decide +kernel
theorem dX0_agreesTo_1 : decode cX0_agreesTo 1 = .ok (.getfield 24, 3) := by decide +kernel
theorem dX0_agreesTo_4 : decode cX0_agreesTo 4 = .ok (.iload_n 1, 1) := by decide +kernel
theorem dX0_agreesTo_5 : decode cX0_agreesTo 5 = .ok (.iconst 1, 1) := by decide +kernel
theorem dX0_agreesTo_6 : decode cX0_agreesTo 6 = .ok (.iload_n 2, 1) := by decide +kernel
theorem dX0_agreesTo_7 : decode cX0_agreesTo 7 = .ok (.iadd, 1) := by decide +kernel
theorem dX0_agreesTo_8 : decode cX0_agreesTo 8 = .ok (.invokevirtual 58, 3) := by decide +kernel
theorem dX0_agreesTo_11 : decode cX0_agreesTo 11 = .ok (.iload_n 3, 1) := by decide +kernel
theorem dX0_agreesTo_12 : decode cX0_agreesTo 12 = .ok (.if_icmp .ne 7, 3) := by decide +kernel
theorem dX0_agreesTo_15 : decode cX0_agreesTo 15 = .ok (.iconst 1, 1) := by decide +kernel
theorem dX0_agreesTo_16 : decode cX0_agreesTo 16 = .ok (.goto 4, 3) := by decide +kernel
theorem dX0_agreesTo_19 : decode cX0_agreesTo 19 = .ok (.iconst 0, 1) := by decide +kernel
theorem dX0_agreesTo_20 : decode cX0_agreesTo 20 = .ok (.ireturn, 1) := by decide +kernel
theorem dX0_weightOf_0 : decode cX0_weightOf 0 = .ok (.aload_n 0, 1) := by decide +kernel
theorem dX0_weightOf_1 : decode cX0_weightOf 1 = .ok (.getfield 27, 3) := by decide +kernel
theorem dX0_weightOf_4 : decode cX0_weightOf 4 = .ok (.iload_n 1, 1) := by decide +kernel
theorem dX0_weightOf_5 : decode cX0_weightOf 5 = .ok (.iconst 1, 1) := by decide +kernel
theorem dX0_weightOf_6 : decode cX0_weightOf 6 = .ok (.invokevirtual 58, 3) := by decide +kernel
theorem dX0_weightOf_9 : decode cX0_weightOf 9 = .ok (.iload_n 2, 1) := by decide +kernel
theorem dX0_weightOf_10 : decode cX0_weightOf 10 = .ok (.if_icmp .ne 19, 3) := by decide +kernel
theorem dX0_weightOf_13 : decode cX0_weightOf 13 = .ok (.aload_n 0, 1) := by decide +kernel
theorem dX0_weightOf_14 : decode cX0_weightOf 14 = .ok (.getfield 27, 3) := by decide +kernel
theorem dX0_weightOf_17 : decode cX0_weightOf 17 = .ok (.iload_n 1, 1) := by decide +kernel
theorem dX0_weightOf_18 : decode cX0_weightOf 18 = .ok (.iconst 5, 1) := by decide +kernel
theorem dX0_weightOf_19 : decode cX0_weightOf 19 = .ok (.invokevirtual 58, 3) := by decide +kernel
theorem dX0_weightOf_22 : decode cX0_weightOf 22 = .ok (.ifCond .ne 7, 3) := by decide +kernel
theorem dX0_weightOf_25 : decode cX0_weightOf 25 = .ok (.iconst 1, 1) := by decide +kernel
theorem dX0_weightOf_26 : decode cX0_weightOf 26 = .ok (.goto 4, 3) := by decide +kernel
theorem dX0_weightOf_29 : decode cX0_weightOf 29 = .ok (.iconst 0, 1) := by decide +kernel
theorem dX0_weightOf_30 : decode cX0_weightOf 30 = .ok (.istore_n 3, 1) := by decide +kernel
theorem dX0_weightOf_31 : decode cX0_weightOf 31 = .ok (.iload_n 3, 1) := by decide +kernel
theorem dX0_weightOf_32 : decode cX0_weightOf 32 = .ok (.ifCond .eq 15, 3) := by decide +kernel
theorem dX0_weightOf_35 : decode cX0_weightOf 35 = .ok (.aload_n 0, 1) := by decide +kernel
theorem dX0_weightOf_36 : decode cX0_weightOf 36 = .ok (.getfield 27, 3) := by decide +kernel
theorem dX0_weightOf_39 : decode cX0_weightOf 39 = .ok (.iload_n 1, 1) := by decide +kernel
theorem dX0_weightOf_40 : decode cX0_weightOf 40 = .ok (.iconst 2, 1) := by decide +kernel
theorem dX0_weightOf_41 : decode cX0_weightOf 41 = .ok (.invokevirtual 58, 3) := by decide +kernel
theorem dX0_weightOf_44 : decode cX0_weightOf 44 = .ok (.goto 4, 3) := by decide +kernel
theorem dX0_weightOf_47 : decode cX0_weightOf 47 = .ok (.iconst 0, 1) := by decide +kernel
theorem dX0_weightOf_48 : decode cX0_weightOf 48 = .ok (.ireturn, 1) := by decide +kernel
theorem dX0_weightOfDonor_0 : decode cX0_weightOfDonor 0 = .ok (.iconst 0, 1) := by decide +kernel
theorem dX0_weightOfDonor_1 : decode cX0_weightOfDonor 1 = .ok (.istore_n 3, 1) := by decide +kernel
theorem dX0_weightOfDonor_2 : decode cX0_weightOfDonor 2 = .ok (.iconst 0, 1) := by decide +kernel
theorem dX0_weightOfDonor_3 : decode cX0_weightOfDonor 3 = .ok (.istore 4, 2) := by decide +kernel
theorem dX0_weightOfDonor_5 : decode cX0_weightOfDonor 5 = .ok (.iload 4, 2) := by decide +kernel
theorem dX0_weightOfDonor_7 : decode cX0_weightOfDonor 7 = .ok (.aload_n 0, 1) := by decide +kernel
theorem dX0_weightOfDonor_8 : decode cX0_weightOfDonor 8 = .ok (.getfield 27, 3) := by decide +kernel
theorem dX0_weightOfDonor_11 : decode cX0_weightOfDonor 11 = .ok (.invokevirtual 86, 3) := by decide +kernel
theorem dX0_weightOfDonor_14 : decode cX0_weightOfDonor 14 = .ok (.if_icmp .ge 29, 3) := by decide +kernel
theorem dX0_weightOfDonor_17 : decode cX0_weightOfDonor 17 = .ok (.aload_n 0, 1) := by decide +kernel
theorem dX0_weightOfDonor_18 : decode cX0_weightOfDonor 18 = .ok (.iload 4, 2) := by decide +kernel
theorem dX0_weightOfDonor_20 : decode cX0_weightOfDonor 20 = .ok (.iload_n 1, 1) := by decide +kernel
theorem dX0_weightOfDonor_21 : decode cX0_weightOfDonor 21 = .ok (.invokevirtual 92, 3) := by decide +kernel
theorem dX0_weightOfDonor_24 : decode cX0_weightOfDonor 24 = .ok (.ifCond .eq 13, 3) := by decide +kernel
theorem dX0_weightOfDonor_27 : decode cX0_weightOfDonor 27 = .ok (.iload_n 3, 1) := by decide +kernel
theorem dX0_weightOfDonor_28 : decode cX0_weightOfDonor 28 = .ok (.aload_n 0, 1) := by decide +kernel
theorem dX0_weightOfDonor_29 : decode cX0_weightOfDonor 29 = .ok (.iload 4, 2) := by decide +kernel
theorem dX0_weightOfDonor_31 : decode cX0_weightOfDonor 31 = .ok (.iload_n 2, 1) := by decide +kernel
theorem dX0_weightOfDonor_32 : decode cX0_weightOfDonor 32 = .ok (.invokevirtual 151, 3) := by decide +kernel
theorem dX0_weightOfDonor_35 : decode cX0_weightOfDonor 35 = .ok (.iadd, 1) := by decide +kernel
theorem dX0_weightOfDonor_36 : decode cX0_weightOfDonor 36 = .ok (.istore_n 3, 1) := by decide +kernel
theorem dX0_weightOfDonor_37 : decode cX0_weightOfDonor 37 = .ok (.iinc 4 1, 3) := by decide +kernel
theorem dX0_weightOfDonor_40 : decode cX0_weightOfDonor 40 = .ok (.goto (-35), 3) := by decide +kernel
theorem dX0_weightOfDonor_43 : decode cX0_weightOfDonor 43 = .ok (.iload_n 3, 1) := by decide +kernel
theorem dX0_weightOfDonor_44 : decode cX0_weightOfDonor 44 = .ok (.ireturn, 1) := by decide +kernel
theorem dX0_weightOfAll_0 : decode cX0_weightOfAll 0 = .ok (.iconst 0, 1) := by decide +kernel
theorem dX0_weightOfAll_1 : decode cX0_weightOfAll 1 = .ok (.istore_n 2, 1) := by decide +kernel
theorem dX0_weightOfAll_2 : decode cX0_weightOfAll 2 = .ok (.iconst 0, 1) := by decide +kernel
theorem dX0_weightOfAll_3 : decode cX0_weightOfAll 3 = .ok (.istore_n 3, 1) := by decide +kernel
theorem dX0_weightOfAll_4 : decode cX0_weightOfAll 4 = .ok (.iload_n 3, 1) := by decide +kernel
theorem dX0_weightOfAll_5 : decode cX0_weightOfAll 5 = .ok (.aload_n 0, 1) := by decide +kernel
theorem dX0_weightOfAll_6 : decode cX0_weightOfAll 6 = .ok (.getfield 27, 3) := by decide +kernel
theorem dX0_weightOfAll_9 : decode cX0_weightOfAll 9 = .ok (.invokevirtual 86, 3) := by decide +kernel
theorem dX0_weightOfAll_12 : decode cX0_weightOfAll 12 = .ok (.if_icmp .ge 18, 3) := by decide +kernel
theorem dX0_weightOfAll_15 : decode cX0_weightOfAll 15 = .ok (.iload_n 2, 1) := by decide +kernel
theorem dX0_weightOfAll_16 : decode cX0_weightOfAll 16 = .ok (.aload_n 0, 1) := by decide +kernel
theorem dX0_weightOfAll_17 : decode cX0_weightOfAll 17 = .ok (.iload_n 3, 1) := by decide +kernel
theorem dX0_weightOfAll_18 : decode cX0_weightOfAll 18 = .ok (.iload_n 1, 1) := by decide +kernel
theorem dX0_weightOfAll_19 : decode cX0_weightOfAll 19 = .ok (.invokevirtual 151, 3) := by decide +kernel
theorem dX0_weightOfAll_22 : decode cX0_weightOfAll 22 = .ok (.iadd, 1) := by decide +kernel
theorem dX0_weightOfAll_23 : decode cX0_weightOfAll 23 = .ok (.istore_n 2, 1) := by decide +kernel
theorem dX0_weightOfAll_24 : decode cX0_weightOfAll 24 = .ok (.iinc 3 1, 3) := by decide +kernel
theorem dX0_weightOfAll_27 : decode cX0_weightOfAll 27 = .ok (.goto (-23), 3) := by decide +kernel
theorem dX0_weightOfAll_30 : decode cX0_weightOfAll 30 = .ok (.iload_n 2, 1) := by decide +kernel
theorem dX0_weightOfAll_31 : decode cX0_weightOfAll 31 = .ok (.ireturn, 1) := by decide +kernel
theorem dX0_weightOfConsents_0 : decode cX0_weightOfConsents 0 = .ok (.iconst 0, 1) := by decide +kernel
theorem dX0_weightOfConsents_1 : decode cX0_weightOfConsents 1 = .ok (.istore_n 3, 1) := by decide +kernel
theorem dX0_weightOfConsents_2 : decode cX0_weightOfConsents 2 = .ok (.iconst 0, 1) := by decide +kernel
theorem dX0_weightOfConsents_3 : decode cX0_weightOfConsents 3 = .ok (.istore 4, 2) := by decide +kernel
theorem dX0_weightOfConsents_5 : decode cX0_weightOfConsents 5 = .ok (.iload 4, 2) := by decide +kernel
theorem dX0_weightOfConsents_7 : decode cX0_weightOfConsents 7 = .ok (.aload_n 0, 1) := by decide +kernel
theorem dX0_weightOfConsents_8 : decode cX0_weightOfConsents 8 = .ok (.getfield 27, 3) := by decide +kernel
theorem dX0_weightOfConsents_11 : decode cX0_weightOfConsents 11 = .ok (.invokevirtual 86, 3) := by decide +kernel
theorem dX0_weightOfConsents_14 : decode cX0_weightOfConsents 14 = .ok (.if_icmp .ge 38, 3) := by decide +kernel
theorem dX0_weightOfConsents_17 : decode cX0_weightOfConsents 17 = .ok (.aload_n 0, 1) := by decide +kernel
theorem dX0_weightOfConsents_18 : decode cX0_weightOfConsents 18 = .ok (.aload_n 0, 1) := by decide +kernel
theorem dX0_weightOfConsents_19 : decode cX0_weightOfConsents 19 = .ok (.getfield 27, 3) := by decide +kernel
theorem dX0_weightOfConsents_22 : decode cX0_weightOfConsents 22 = .ok (.iload 4, 2) := by decide +kernel
theorem dX0_weightOfConsents_24 : decode cX0_weightOfConsents 24 = .ok (.iconst 0, 1) := by decide +kernel
theorem dX0_weightOfConsents_25 : decode cX0_weightOfConsents 25 = .ok (.invokevirtual 58, 3) := by decide +kernel
theorem dX0_weightOfConsents_28 : decode cX0_weightOfConsents 28 = .ok (.iload_n 1, 1) := by decide +kernel
theorem dX0_weightOfConsents_29 : decode cX0_weightOfConsents 29 = .ok (.iload_n 2, 1) := by decide +kernel
theorem dX0_weightOfConsents_30 : decode cX0_weightOfConsents 30 = .ok (.invokevirtual 154, 3) := by decide +kernel
theorem dX0_weightOfConsents_33 : decode cX0_weightOfConsents 33 = .ok (.ifCond .eq 13, 3) := by decide +kernel
theorem dX0_weightOfConsents_36 : decode cX0_weightOfConsents 36 = .ok (.iload_n 3, 1) := by decide +kernel
theorem dX0_weightOfConsents_37 : decode cX0_weightOfConsents 37 = .ok (.aload_n 0, 1) := by decide +kernel
theorem dX0_weightOfConsents_38 : decode cX0_weightOfConsents 38 = .ok (.iload 4, 2) := by decide +kernel
theorem dX0_weightOfConsents_40 : decode cX0_weightOfConsents 40 = .ok (.iload_n 1, 1) := by decide +kernel
theorem dX0_weightOfConsents_41 : decode cX0_weightOfConsents 41 = .ok (.invokevirtual 151, 3) := by decide +kernel
theorem dX0_weightOfConsents_44 : decode cX0_weightOfConsents 44 = .ok (.iadd, 1) := by decide +kernel
theorem dX0_weightOfConsents_45 : decode cX0_weightOfConsents 45 = .ok (.istore_n 3, 1) := by decide +kernel
theorem dX0_weightOfConsents_46 : decode cX0_weightOfConsents 46 = .ok (.iinc 4 1, 3) := by decide +kernel
theorem dX0_weightOfConsents_49 : decode cX0_weightOfConsents 49 = .ok (.goto (-44), 3) := by decide +kernel
theorem dX0_weightOfConsents_52 : decode cX0_weightOfConsents 52 = .ok (.iload_n 3, 1) := by decide +kernel
theorem dX0_weightOfConsents_53 : decode cX0_weightOfConsents 53 = .ok (.ireturn, 1) := by decide +kernel
theorem dX0_handOnPledges_0 : decode cX0_handOnPledges 0 = .ok (.iconst 0, 1) := by decide +kernel
theorem dX0_handOnPledges_1 : decode cX0_handOnPledges 1 = .ok (.istore_n 3, 1) := by decide +kernel
theorem dX0_handOnPledges_2 : decode cX0_handOnPledges 2 = .ok (.iload_n 3, 1) := by decide +kernel
theorem dX0_handOnPledges_3 : decode cX0_handOnPledges 3 = .ok (.aload_n 0, 1) := by decide +kernel
theorem dX0_handOnPledges_4 : decode cX0_handOnPledges 4 = .ok (.getfield 30, 3) := by decide +kernel
theorem dX0_handOnPledges_7 : decode cX0_handOnPledges 7 = .ok (.invokevirtual 86, 3) := by decide +kernel
theorem dX0_handOnPledges_10 : decode cX0_handOnPledges 10 = .ok (.if_icmp .ge 66, 3) := by decide +kernel
theorem dX0_handOnPledges_13 : decode cX0_handOnPledges 13 = .ok (.aload_n 0, 1) := by decide +kernel
theorem dX0_handOnPledges_14 : decode cX0_handOnPledges 14 = .ok (.iload_n 3, 1) := by decide +kernel
theorem dX0_handOnPledges_15 : decode cX0_handOnPledges 15 = .ok (.invokevirtual 79, 3) := by decide +kernel
theorem dX0_handOnPledges_18 : decode cX0_handOnPledges 18 = .ok (.ifCond .eq 52, 3) := by decide +kernel
theorem dX0_handOnPledges_21 : decode cX0_handOnPledges 21 = .ok (.aload_n 0, 1) := by decide +kernel
theorem dX0_handOnPledges_22 : decode cX0_handOnPledges 22 = .ok (.getfield 30, 3) := by decide +kernel
theorem dX0_handOnPledges_25 : decode cX0_handOnPledges 25 = .ok (.iload_n 3, 1) := by decide +kernel
theorem dX0_handOnPledges_26 : decode cX0_handOnPledges 26 = .ok (.iconst 1, 1) := by decide +kernel
theorem dX0_handOnPledges_27 : decode cX0_handOnPledges 27 = .ok (.invokevirtual 58, 3) := by decide +kernel
theorem dX0_handOnPledges_30 : decode cX0_handOnPledges 30 = .ok (.iload_n 1, 1) := by decide +kernel
theorem dX0_handOnPledges_31 : decode cX0_handOnPledges 31 = .ok (.if_icmp .ne 39, 3) := by decide +kernel
theorem dX0_handOnPledges_34 : decode cX0_handOnPledges 34 = .ok (.aload_n 0, 1) := by decide +kernel
theorem dX0_handOnPledges_35 : decode cX0_handOnPledges 35 = .ok (.aload_n 0, 1) := by decide +kernel
theorem dX0_handOnPledges_36 : decode cX0_handOnPledges 36 = .ok (.getfield 30, 3) := by decide +kernel
theorem dX0_handOnPledges_39 : decode cX0_handOnPledges 39 = .ok (.iload_n 3, 1) := by decide +kernel
theorem dX0_handOnPledges_40 : decode cX0_handOnPledges 40 = .ok (.iconst 0, 1) := by decide +kernel
theorem dX0_handOnPledges_41 : decode cX0_handOnPledges 41 = .ok (.invokevirtual 58, 3) := by decide +kernel
theorem dX0_handOnPledges_44 : decode cX0_handOnPledges 44 = .ok (.iload_n 1, 1) := by decide +kernel
theorem dX0_handOnPledges_45 : decode cX0_handOnPledges 45 = .ok (.iload_n 2, 1) := by decide +kernel
theorem dX0_handOnPledges_46 : decode cX0_handOnPledges 46 = .ok (.invokevirtual 154, 3) := by decide +kernel
theorem dX0_handOnPledges_49 : decode cX0_handOnPledges 49 = .ok (.ifCond .eq 16, 3) := by decide +kernel
theorem dX0_handOnPledges_52 : decode cX0_handOnPledges 52 = .ok (.aload_n 0, 1) := by decide +kernel
theorem dX0_handOnPledges_53 : decode cX0_handOnPledges 53 = .ok (.getfield 30, 3) := by decide +kernel
theorem dX0_handOnPledges_56 : decode cX0_handOnPledges 56 = .ok (.iload_n 3, 1) := by decide +kernel
theorem dX0_handOnPledges_57 : decode cX0_handOnPledges 57 = .ok (.iconst 1, 1) := by decide +kernel
theorem dX0_handOnPledges_58 : decode cX0_handOnPledges 58 = .ok (.iload_n 2, 1) := by decide +kernel
theorem dX0_handOnPledges_59 : decode cX0_handOnPledges 59 = .ok (.invokevirtual 46, 3) := by decide +kernel
theorem dX0_handOnPledges_62 : decode cX0_handOnPledges 62 = .ok (.goto 8, 3) := by decide +kernel
theorem dX0_handOnPledges_65 : decode cX0_handOnPledges 65 = .ok (.aload_n 0, 1) := by decide +kernel
theorem dX0_handOnPledges_66 : decode cX0_handOnPledges 66 = .ok (.iload_n 3, 1) := by decide +kernel
theorem dX0_handOnPledges_67 : decode cX0_handOnPledges 67 = .ok (.invokevirtual 82, 3) := by decide +kernel
theorem dX0_handOnPledges_70 : decode cX0_handOnPledges 70 = .ok (.iinc 3 1, 3) := by decide +kernel
theorem dX0_handOnPledges_73 : decode cX0_handOnPledges 73 = .ok (.goto (-71), 3) := by decide +kernel
theorem dX0_handOnPledges_76 : decode cX0_handOnPledges 76 = .ok (.return_, 1) := by decide +kernel
theorem dX0_forgetConsents_0 : decode cX0_forgetConsents 0 = .ok (.iconst 0, 1) := by decide +kernel
theorem dX0_forgetConsents_1 : decode cX0_forgetConsents 1 = .ok (.istore_n 2, 1) := by decide +kernel
theorem dX0_forgetConsents_2 : decode cX0_forgetConsents 2 = .ok (.iload_n 2, 1) := by decide +kernel
theorem dX0_forgetConsents_3 : decode cX0_forgetConsents 3 = .ok (.aload_n 0, 1) := by decide +kernel
theorem dX0_forgetConsents_4 : decode cX0_forgetConsents 4 = .ok (.getfield 24, 3) := by decide +kernel
theorem dX0_forgetConsents_7 : decode cX0_forgetConsents 7 = .ok (.invokevirtual 86, 3) := by decide +kernel
theorem dX0_forgetConsents_10 : decode cX0_forgetConsents 10 = .ok (.if_icmp .ge 21, 3) := by decide +kernel
theorem dX0_forgetConsents_13 : decode cX0_forgetConsents 13 = .ok (.aload_n 0, 1) := by decide +kernel
theorem dX0_forgetConsents_14 : decode cX0_forgetConsents 14 = .ok (.getfield 24, 3) := by decide +kernel
theorem dX0_forgetConsents_17 : decode cX0_forgetConsents 17 = .ok (.iload_n 2, 1) := by decide +kernel
theorem dX0_forgetConsents_18 : decode cX0_forgetConsents 18 = .ok (.iconst 1, 1) := by decide +kernel
theorem dX0_forgetConsents_19 : decode cX0_forgetConsents 19 = .ok (.iload_n 1, 1) := by decide +kernel
theorem dX0_forgetConsents_20 : decode cX0_forgetConsents 20 = .ok (.iadd, 1) := by decide +kernel
theorem dX0_forgetConsents_21 : decode cX0_forgetConsents 21 = .ok (.iconst (-1), 1) := by decide +kernel
theorem dX0_forgetConsents_22 : decode cX0_forgetConsents 22 = .ok (.invokevirtual 46, 3) := by decide +kernel
theorem dX0_forgetConsents_25 : decode cX0_forgetConsents 25 = .ok (.iinc 2 1, 3) := by decide +kernel
theorem dX0_forgetConsents_28 : decode cX0_forgetConsents 28 = .ok (.goto (-26), 3) := by decide +kernel
theorem dX0_forgetConsents_31 : decode cX0_forgetConsents 31 = .ok (.return_, 1) := by decide +kernel
theorem dX0_closePurpose_0 : decode cX0_closePurpose 0 = .ok (.aload_n 0, 1) := by decide +kernel
theorem dX0_closePurpose_1 : decode cX0_closePurpose 1 = .ok (.getfield 20, 3) := by decide +kernel
theorem dX0_closePurpose_4 : decode cX0_closePurpose 4 = .ok (.iload_n 1, 1) := by decide +kernel
theorem dX0_closePurpose_5 : decode cX0_closePurpose 5 = .ok (.bipush 9, 2) := by decide +kernel
theorem dX0_closePurpose_7 : decode cX0_closePurpose 7 = .ok (.iload_n 2, 1) := by decide +kernel
theorem dX0_closePurpose_8 : decode cX0_closePurpose 8 = .ok (.invokevirtual 46, 3) := by decide +kernel
theorem dX0_closePurpose_11 : decode cX0_closePurpose 11 = .ok (.iconst 0, 1) := by decide +kernel
theorem dX0_closePurpose_12 : decode cX0_closePurpose 12 = .ok (.istore_n 3, 1) := by decide +kernel
theorem dX0_closePurpose_13 : decode cX0_closePurpose 13 = .ok (.iload_n 3, 1) := by decide +kernel
theorem dX0_closePurpose_14 : decode cX0_closePurpose 14 = .ok (.aload_n 0, 1) := by decide +kernel
theorem dX0_closePurpose_15 : decode cX0_closePurpose 15 = .ok (.getfield 20, 3) := by decide +kernel
theorem dX0_closePurpose_18 : decode cX0_closePurpose 18 = .ok (.invokevirtual 86, 3) := by decide +kernel
theorem dX0_closePurpose_21 : decode cX0_closePurpose 21 = .ok (.if_icmp .ge 34, 3) := by decide +kernel
theorem dX0_closePurpose_24 : decode cX0_closePurpose 24 = .ok (.aload_n 0, 1) := by decide +kernel
theorem dX0_closePurpose_25 : decode cX0_closePurpose 25 = .ok (.getfield 20, 3) := by decide +kernel
theorem dX0_closePurpose_28 : decode cX0_closePurpose 28 = .ok (.iload_n 3, 1) := by decide +kernel
theorem dX0_closePurpose_29 : decode cX0_closePurpose 29 = .ok (.bipush 10, 2) := by decide +kernel
theorem dX0_closePurpose_31 : decode cX0_closePurpose 31 = .ok (.invokevirtual 58, 3) := by decide +kernel
theorem dX0_closePurpose_34 : decode cX0_closePurpose 34 = .ok (.iload_n 1, 1) := by decide +kernel
theorem dX0_closePurpose_35 : decode cX0_closePurpose 35 = .ok (.if_icmp .ne 14, 3) := by decide +kernel
theorem dX0_closePurpose_38 : decode cX0_closePurpose 38 = .ok (.aload_n 0, 1) := by decide +kernel
theorem dX0_closePurpose_39 : decode cX0_closePurpose 39 = .ok (.getfield 20, 3) := by decide +kernel
theorem dX0_closePurpose_42 : decode cX0_closePurpose 42 = .ok (.iload_n 3, 1) := by decide +kernel
theorem dX0_closePurpose_43 : decode cX0_closePurpose 43 = .ok (.bipush 10, 2) := by decide +kernel
theorem dX0_closePurpose_45 : decode cX0_closePurpose 45 = .ok (.iload_n 2, 1) := by decide +kernel
theorem dX0_closePurpose_46 : decode cX0_closePurpose 46 = .ok (.invokevirtual 46, 3) := by decide +kernel
theorem dX0_closePurpose_49 : decode cX0_closePurpose 49 = .ok (.iinc 3 1, 3) := by decide +kernel
theorem dX0_closePurpose_52 : decode cX0_closePurpose 52 = .ok (.goto (-39), 3) := by decide +kernel
theorem dX0_closePurpose_55 : decode cX0_closePurpose 55 = .ok (.return_, 1) := by decide +kernel
theorem dX0_moveFund_0 : decode cX0_moveFund 0 = .ok (.aload_n 0, 1) := by decide +kernel
theorem dX0_moveFund_1 : decode cX0_moveFund 1 = .ok (.iload_n 1, 1) := by decide +kernel
theorem dX0_moveFund_2 : decode cX0_moveFund 2 = .ok (.invokevirtual 115, 3) := by decide +kernel
theorem dX0_moveFund_5 : decode cX0_moveFund 5 = .ok (.istore_n 3, 1) := by decide +kernel
theorem dX0_moveFund_6 : decode cX0_moveFund 6 = .ok (.aload_n 0, 1) := by decide +kernel
theorem dX0_moveFund_7 : decode cX0_moveFund 7 = .ok (.getfield 20, 3) := by decide +kernel
theorem dX0_moveFund_10 : decode cX0_moveFund 10 = .ok (.iload_n 1, 1) := by decide +kernel
theorem dX0_moveFund_11 : decode cX0_moveFund 11 = .ok (.iconst 0, 1) := by decide +kernel
theorem dX0_moveFund_12 : decode cX0_moveFund 12 = .ok (.iconst 0, 1) := by decide +kernel
theorem dX0_moveFund_13 : decode cX0_moveFund 13 = .ok (.invokevirtual 46, 3) := by decide +kernel
theorem dX0_moveFund_16 : decode cX0_moveFund 16 = .ok (.aload_n 0, 1) := by decide +kernel
theorem dX0_moveFund_17 : decode cX0_moveFund 17 = .ok (.getfield 20, 3) := by decide +kernel
theorem dX0_moveFund_20 : decode cX0_moveFund 20 = .ok (.iload_n 1, 1) := by decide +kernel
theorem dX0_moveFund_21 : decode cX0_moveFund 21 = .ok (.bipush 8, 2) := by decide +kernel
theorem dX0_moveFund_23 : decode cX0_moveFund 23 = .ok (.iload_n 3, 1) := by decide +kernel
theorem dX0_moveFund_24 : decode cX0_moveFund 24 = .ok (.invokevirtual 73, 3) := by decide +kernel
theorem dX0_moveFund_27 : decode cX0_moveFund 27 = .ok (.aload_n 0, 1) := by decide +kernel
theorem dX0_moveFund_28 : decode cX0_moveFund 28 = .ok (.getfield 20, 3) := by decide +kernel
theorem dX0_moveFund_31 : decode cX0_moveFund 31 = .ok (.iload_n 2, 1) := by decide +kernel
theorem dX0_moveFund_32 : decode cX0_moveFund 32 = .ok (.iconst 0, 1) := by decide +kernel
theorem dX0_moveFund_33 : decode cX0_moveFund 33 = .ok (.iload_n 3, 1) := by decide +kernel
theorem dX0_moveFund_34 : decode cX0_moveFund 34 = .ok (.invokevirtual 73, 3) := by decide +kernel
theorem dX0_moveFund_37 : decode cX0_moveFund 37 = .ok (.aload_n 0, 1) := by decide +kernel
theorem dX0_moveFund_38 : decode cX0_moveFund 38 = .ok (.getfield 20, 3) := by decide +kernel
theorem dX0_moveFund_41 : decode cX0_moveFund 41 = .ok (.iload_n 2, 1) := by decide +kernel
theorem dX0_moveFund_42 : decode cX0_moveFund 42 = .ok (.bipush 7, 2) := by decide +kernel
theorem dX0_moveFund_44 : decode cX0_moveFund 44 = .ok (.iload_n 3, 1) := by decide +kernel
theorem dX0_moveFund_45 : decode cX0_moveFund 45 = .ok (.invokevirtual 73, 3) := by decide +kernel
theorem dX0_moveFund_48 : decode cX0_moveFund 48 = .ok (.iload_n 3, 1) := by decide +kernel
theorem dX0_moveFund_49 : decode cX0_moveFund 49 = .ok (.ireturn, 1) := by decide +kernel
theorem dX0_changeSetting_0 : decode cX0_changeSetting 0 = .ok (.iload_n 1, 1) := by decide +kernel
theorem dX0_changeSetting_1 : decode cX0_changeSetting 1 = .ok (.ifCond .ne 13, 3) := by decide +kernel
theorem dX0_changeSetting_4 : decode cX0_changeSetting 4 = .ok (.iload_n 2, 1) := by decide +kernel
theorem dX0_changeSetting_5 : decode cX0_changeSetting 5 = .ok (.iconst 1, 1) := by decide +kernel
theorem dX0_changeSetting_6 : decode cX0_changeSetting 6 = .ok (.bipush 100, 2) := by decide +kernel
theorem dX0_changeSetting_8 : decode cX0_changeSetting 8 = .ok (.invokestatic 54, 3) := by decide +kernel
theorem dX0_changeSetting_11 : decode cX0_changeSetting 11 = .ok (.goto 23, 3) := by decide +kernel
theorem dX0_changeSetting_14 : decode cX0_changeSetting 14 = .ok (.iload_n 1, 1) := by decide +kernel
theorem dX0_changeSetting_15 : decode cX0_changeSetting 15 = .ok (.iconst 1, 1) := by decide +kernel
theorem dX0_changeSetting_16 : decode cX0_changeSetting 16 = .ok (.if_icmp .ne 17, 3) := by decide +kernel
theorem dX0_changeSetting_19 : decode cX0_changeSetting 19 = .ok (.iload_n 2, 1) := by decide +kernel
theorem dX0_changeSetting_20 : decode cX0_changeSetting 20 = .ok (.iconst 0, 1) := by decide +kernel
theorem dX0_changeSetting_21 : decode cX0_changeSetting 21 = .ok (.ldc 157, 2) := by decide +kernel
theorem dX0_changeSetting_23 : decode cX0_changeSetting 23 = .ok (.invokestatic 54, 3) := by decide +kernel
theorem dX0_changeSetting_26 : decode cX0_changeSetting 26 = .ok (.ifCond .eq 7, 3) := by decide +kernel
theorem dX0_changeSetting_29 : decode cX0_changeSetting 29 = .ok (.iconst 1, 1) := by decide +kernel
theorem dX0_changeSetting_30 : decode cX0_changeSetting 30 = .ok (.goto 4, 3) := by decide +kernel
theorem dX0_changeSetting_33 : decode cX0_changeSetting 33 = .ok (.iconst 0, 1) := by decide +kernel
theorem dX0_changeSetting_34 : decode cX0_changeSetting 34 = .ok (.istore_n 3, 1) := by decide +kernel
theorem dX0_changeSetting_35 : decode cX0_changeSetting 35 = .ok (.iload_n 3, 1) := by decide +kernel
theorem dX0_changeSetting_36 : decode cX0_changeSetting 36 = .ok (.ifCond .ne 5, 3) := by decide +kernel
theorem dX0_changeSetting_39 : decode cX0_changeSetting 39 = .ok (.iconst (-1), 1) := by decide +kernel
theorem dX0_changeSetting_40 : decode cX0_changeSetting 40 = .ok (.ireturn, 1) := by decide +kernel
theorem dX0_changeSetting_41 : decode cX0_changeSetting 41 = .ok (.iload_n 1, 1) := by decide +kernel
theorem dX0_changeSetting_42 : decode cX0_changeSetting 42 = .ok (.ifCond .ne 7, 3) := by decide +kernel
theorem dX0_changeSetting_45 : decode cX0_changeSetting 45 = .ok (.iconst 1, 1) := by decide +kernel
theorem dX0_changeSetting_46 : decode cX0_changeSetting 46 = .ok (.goto 4, 3) := by decide +kernel
theorem dX0_changeSetting_49 : decode cX0_changeSetting 49 = .ok (.iconst 2, 1) := by decide +kernel
theorem dX0_changeSetting_50 : decode cX0_changeSetting 50 = .ok (.istore 4, 2) := by decide +kernel
theorem dX0_changeSetting_52 : decode cX0_changeSetting 52 = .ok (.aload_n 0, 1) := by decide +kernel
theorem dX0_changeSetting_53 : decode cX0_changeSetting 53 = .ok (.getfield 11, 3) := by decide +kernel
theorem dX0_changeSetting_56 : decode cX0_changeSetting 56 = .ok (.iload 4, 2) := by decide +kernel
theorem dX0_changeSetting_58 : decode cX0_changeSetting 58 = .ok (.iaload, 1) := by decide +kernel
theorem dX0_changeSetting_59 : decode cX0_changeSetting 59 = .ok (.istore 5, 2) := by decide +kernel
theorem dX0_changeSetting_61 : decode cX0_changeSetting 61 = .ok (.aload_n 0, 1) := by decide +kernel
theorem dX0_changeSetting_62 : decode cX0_changeSetting 62 = .ok (.getfield 11, 3) := by decide +kernel
theorem dX0_changeSetting_65 : decode cX0_changeSetting 65 = .ok (.iload 4, 2) := by decide +kernel
theorem dX0_changeSetting_67 : decode cX0_changeSetting 67 = .ok (.iload_n 2, 1) := by decide +kernel
theorem dX0_changeSetting_68 : decode cX0_changeSetting 68 = .ok (.iastore, 1) := by decide +kernel
theorem dX0_changeSetting_69 : decode cX0_changeSetting 69 = .ok (.iload 5, 2) := by decide +kernel
theorem dX0_changeSetting_71 : decode cX0_changeSetting 71 = .ok (.ireturn, 1) := by decide +kernel
theorem dX0_tellPurpose_0 : decode cX0_tellPurpose 0 = .ok (.aload_n 0, 1) := by decide +kernel
theorem dX0_tellPurpose_1 : decode cX0_tellPurpose 1 = .ok (.getfield 20, 3) := by decide +kernel
theorem dX0_tellPurpose_4 : decode cX0_tellPurpose 4 = .ok (.iload_n 1, 1) := by decide +kernel
theorem dX0_tellPurpose_5 : decode cX0_tellPurpose 5 = .ok (.invokevirtual 50, 3) := by decide +kernel
theorem dX0_tellPurpose_8 : decode cX0_tellPurpose 8 = .ok (.ifCond .eq 13, 3) := by decide +kernel
theorem dX0_tellPurpose_11 : decode cX0_tellPurpose 11 = .ok (.iload_n 2, 1) := by decide +kernel
theorem dX0_tellPurpose_12 : decode cX0_tellPurpose 12 = .ok (.iconst 0, 1) := by decide +kernel
theorem dX0_tellPurpose_13 : decode cX0_tellPurpose 13 = .ok (.bipush 11, 2) := by decide +kernel
theorem dX0_tellPurpose_15 : decode cX0_tellPurpose 15 = .ok (.invokestatic 54, 3) := by decide +kernel
theorem dX0_tellPurpose_18 : decode cX0_tellPurpose 18 = .ok (.ifCond .ne 5, 3) := by decide +kernel
theorem dX0_tellPurpose_21 : decode cX0_tellPurpose 21 = .ok (.iconst (-1), 1) := by decide +kernel
theorem dX0_tellPurpose_22 : decode cX0_tellPurpose 22 = .ok (.ireturn, 1) := by decide +kernel
theorem dX0_tellPurpose_23 : decode cX0_tellPurpose 23 = .ok (.iload_n 2, 1) := by decide +kernel
theorem dX0_tellPurpose_24 : decode cX0_tellPurpose 24 = .ok (.bipush 9, 2) := by decide +kernel
theorem dX0_tellPurpose_26 : decode cX0_tellPurpose 26 = .ok (.if_icmp .ne 14, 3) := by decide +kernel
theorem dX0_tellPurpose_29 : decode cX0_tellPurpose 29 = .ok (.aload_n 0, 1) := by decide +kernel
theorem dX0_tellPurpose_30 : decode cX0_tellPurpose 30 = .ok (.iload_n 1, 1) := by decide +kernel
theorem dX0_tellPurpose_31 : decode cX0_tellPurpose 31 = .ok (.invokevirtual 62, 3) := by decide +kernel
theorem dX0_tellPurpose_34 : decode cX0_tellPurpose 34 = .ok (.ifCond .ne 6, 3) := by decide +kernel
theorem dX0_tellPurpose_37 : decode cX0_tellPurpose 37 = .ok (.bipush (-4), 2) := by decide +kernel
theorem dX0_tellPurpose_39 : decode cX0_tellPurpose 39 = .ok (.ireturn, 1) := by decide +kernel
theorem dX0_tellPurpose_40 : decode cX0_tellPurpose 40 = .ok (.aload_n 0, 1) := by decide +kernel
theorem dX0_tellPurpose_41 : decode cX0_tellPurpose 41 = .ok (.getfield 20, 3) := by decide +kernel
theorem dX0_tellPurpose_44 : decode cX0_tellPurpose 44 = .ok (.iload_n 1, 1) := by decide +kernel
theorem dX0_tellPurpose_45 : decode cX0_tellPurpose 45 = .ok (.iload_n 2, 1) := by decide +kernel
theorem dX0_tellPurpose_46 : decode cX0_tellPurpose 46 = .ok (.invokevirtual 58, 3) := by decide +kernel
theorem dX0_tellPurpose_49 : decode cX0_tellPurpose 49 = .ok (.ireturn, 1) := by decide +kernel
theorem dX0_tellDonor_0 : decode cX0_tellDonor 0 = .ok (.aload_n 0, 1) := by decide +kernel
theorem dX0_tellDonor_1 : decode cX0_tellDonor 1 = .ok (.getfield 24, 3) := by decide +kernel
theorem dX0_tellDonor_4 : decode cX0_tellDonor 4 = .ok (.iload_n 1, 1) := by decide +kernel
theorem dX0_tellDonor_5 : decode cX0_tellDonor 5 = .ok (.invokevirtual 50, 3) := by decide +kernel
theorem dX0_tellDonor_8 : decode cX0_tellDonor 8 = .ok (.ifCond .ne 5, 3) := by decide +kernel
theorem dX0_tellDonor_11 : decode cX0_tellDonor 11 = .ok (.iconst (-1), 1) := by decide +kernel
theorem dX0_tellDonor_12 : decode cX0_tellDonor 12 = .ok (.ireturn, 1) := by decide +kernel
theorem dX0_tellDonor_13 : decode cX0_tellDonor 13 = .ok (.iload_n 2, 1) := by decide +kernel
theorem dX0_tellDonor_14 : decode cX0_tellDonor 14 = .ok (.tableswitch 57 0 4 #[34, 44, 44, 44, 51], 34) := by decide +kernel
theorem dX0_tellDonor_48 : decode cX0_tellDonor 48 = .ok (.aload_n 0, 1) := by decide +kernel
theorem dX0_tellDonor_49 : decode cX0_tellDonor 49 = .ok (.getfield 24, 3) := by decide +kernel
theorem dX0_tellDonor_52 : decode cX0_tellDonor 52 = .ok (.iload_n 1, 1) := by decide +kernel
theorem dX0_tellDonor_53 : decode cX0_tellDonor 53 = .ok (.iconst 0, 1) := by decide +kernel
theorem dX0_tellDonor_54 : decode cX0_tellDonor 54 = .ok (.invokevirtual 58, 3) := by decide +kernel
theorem dX0_tellDonor_57 : decode cX0_tellDonor 57 = .ok (.ireturn, 1) := by decide +kernel
theorem dX0_tellDonor_58 : decode cX0_tellDonor 58 = .ok (.aload_n 0, 1) := by decide +kernel
theorem dX0_tellDonor_59 : decode cX0_tellDonor 59 = .ok (.iload_n 1, 1) := by decide +kernel
theorem dX0_tellDonor_60 : decode cX0_tellDonor 60 = .ok (.iload_n 2, 1) := by decide +kernel
theorem dX0_tellDonor_61 : decode cX0_tellDonor 61 = .ok (.invokevirtual 158, 3) := by decide +kernel
theorem dX0_tellDonor_64 : decode cX0_tellDonor 64 = .ok (.ireturn, 1) := by decide +kernel
theorem dX0_tellDonor_65 : decode cX0_tellDonor 65 = .ok (.aload_n 0, 1) := by decide +kernel
theorem dX0_tellDonor_66 : decode cX0_tellDonor 66 = .ok (.iload_n 1, 1) := by decide +kernel
theorem dX0_tellDonor_67 : decode cX0_tellDonor 67 = .ok (.invokevirtual 161, 3) := by decide +kernel
theorem dX0_tellDonor_70 : decode cX0_tellDonor 70 = .ok (.ireturn, 1) := by decide +kernel
theorem dX0_tellDonor_71 : decode cX0_tellDonor 71 = .ok (.aload_n 0, 1) := by decide +kernel
theorem dX0_tellDonor_72 : decode cX0_tellDonor 72 = .ok (.iload_n 1, 1) := by decide +kernel
theorem dX0_tellDonor_73 : decode cX0_tellDonor 73 = .ok (.iload_n 2, 1) := by decide +kernel
theorem dX0_tellDonor_74 : decode cX0_tellDonor 74 = .ok (.invokevirtual 164, 3) := by decide +kernel
theorem dX0_tellDonor_77 : decode cX0_tellDonor 77 = .ok (.ireturn, 1) := by decide +kernel
theorem dX0_tellConsent_0 : decode cX0_tellConsent 0 = .ok (.iload_n 2, 1) := by decide +kernel
theorem dX0_tellConsent_1 : decode cX0_tellConsent 1 = .ok (.bipush 10, 2) := by decide +kernel
theorem dX0_tellConsent_3 : decode cX0_tellConsent 3 = .ok (.if_icmp .lt 17, 3) := by decide +kernel
theorem dX0_tellConsent_6 : decode cX0_tellConsent 6 = .ok (.aload_n 0, 1) := by decide +kernel
theorem dX0_tellConsent_7 : decode cX0_tellConsent 7 = .ok (.getfield 20, 3) := by decide +kernel
theorem dX0_tellConsent_10 : decode cX0_tellConsent 10 = .ok (.iload_n 2, 1) := by decide +kernel
theorem dX0_tellConsent_11 : decode cX0_tellConsent 11 = .ok (.bipush 10, 2) := by decide +kernel
theorem dX0_tellConsent_13 : decode cX0_tellConsent 13 = .ok (.isub, 1) := by decide +kernel
theorem dX0_tellConsent_14 : decode cX0_tellConsent 14 = .ok (.invokevirtual 50, 3) := by decide +kernel
theorem dX0_tellConsent_17 : decode cX0_tellConsent 17 = .ok (.ifCond .ne 5, 3) := by decide +kernel
theorem dX0_tellConsent_20 : decode cX0_tellConsent 20 = .ok (.iconst (-1), 1) := by decide +kernel
theorem dX0_tellConsent_21 : decode cX0_tellConsent 21 = .ok (.ireturn, 1) := by decide +kernel
theorem dX0_tellConsent_22 : decode cX0_tellConsent 22 = .ok (.aload_n 0, 1) := by decide +kernel
theorem dX0_tellConsent_23 : decode cX0_tellConsent 23 = .ok (.getfield 24, 3) := by decide +kernel
theorem dX0_tellConsent_26 : decode cX0_tellConsent 26 = .ok (.iload_n 1, 1) := by decide +kernel
theorem dX0_tellConsent_27 : decode cX0_tellConsent 27 = .ok (.iconst 1, 1) := by decide +kernel
theorem dX0_tellConsent_28 : decode cX0_tellConsent 28 = .ok (.iload_n 2, 1) := by decide +kernel
theorem dX0_tellConsent_29 : decode cX0_tellConsent 29 = .ok (.iadd, 1) := by decide +kernel
theorem dX0_tellConsent_30 : decode cX0_tellConsent 30 = .ok (.bipush 10, 2) := by decide +kernel
theorem dX0_tellConsent_32 : decode cX0_tellConsent 32 = .ok (.isub, 1) := by decide +kernel
theorem dX0_tellConsent_33 : decode cX0_tellConsent 33 = .ok (.invokevirtual 58, 3) := by decide +kernel
theorem dX0_tellConsent_36 : decode cX0_tellConsent 36 = .ok (.istore_n 3, 1) := by decide +kernel
theorem dX0_tellConsent_37 : decode cX0_tellConsent 37 = .ok (.iload_n 3, 1) := by decide +kernel
theorem dX0_tellConsent_38 : decode cX0_tellConsent 38 = .ok (.iconst (-1), 1) := by decide +kernel
theorem dX0_tellConsent_39 : decode cX0_tellConsent 39 = .ok (.if_icmp .ne 8, 3) := by decide +kernel
theorem dX0_tellConsent_42 : decode cX0_tellConsent 42 = .ok (.bipush (-4), 2) := by decide +kernel
theorem dX0_tellConsent_44 : decode cX0_tellConsent 44 = .ok (.goto 4, 3) := by decide +kernel
theorem dX0_tellConsent_47 : decode cX0_tellConsent 47 = .ok (.iload_n 3, 1) := by decide +kernel
theorem dX0_tellConsent_48 : decode cX0_tellConsent 48 = .ok (.ireturn, 1) := by decide +kernel
theorem dX0_amountsOf_0 : decode cX0_amountsOf 0 = .ok (.iconst 0, 1) := by decide +kernel
theorem dX0_amountsOf_1 : decode cX0_amountsOf 1 = .ok (.istore_n 3, 1) := by decide +kernel
theorem dX0_amountsOf_2 : decode cX0_amountsOf 2 = .ok (.iconst 0, 1) := by decide +kernel
theorem dX0_amountsOf_3 : decode cX0_amountsOf 3 = .ok (.istore 4, 2) := by decide +kernel
theorem dX0_amountsOf_5 : decode cX0_amountsOf 5 = .ok (.iload 4, 2) := by decide +kernel
theorem dX0_amountsOf_7 : decode cX0_amountsOf 7 = .ok (.aload_n 0, 1) := by decide +kernel
theorem dX0_amountsOf_8 : decode cX0_amountsOf 8 = .ok (.getfield 27, 3) := by decide +kernel
theorem dX0_amountsOf_11 : decode cX0_amountsOf 11 = .ok (.invokevirtual 86, 3) := by decide +kernel
theorem dX0_amountsOf_14 : decode cX0_amountsOf 14 = .ok (.if_icmp .ge 86, 3) := by decide +kernel
theorem dX0_amountsOf_17 : decode cX0_amountsOf 17 = .ok (.iload_n 2, 1) := by decide +kernel
theorem dX0_amountsOf_18 : decode cX0_amountsOf 18 = .ok (.iconst 1, 1) := by decide +kernel
theorem dX0_amountsOf_19 : decode cX0_amountsOf 19 = .ok (.if_icmp .eq 40, 3) := by decide +kernel
theorem dX0_amountsOf_22 : decode cX0_amountsOf 22 = .ok (.iload_n 2, 1) := by decide +kernel
theorem dX0_amountsOf_23 : decode cX0_amountsOf 23 = .ok (.iconst 2, 1) := by decide +kernel
theorem dX0_amountsOf_24 : decode cX0_amountsOf 24 = .ok (.if_icmp .ne 12, 3) := by decide +kernel
theorem dX0_amountsOf_27 : decode cX0_amountsOf 27 = .ok (.aload_n 0, 1) := by decide +kernel
theorem dX0_amountsOf_28 : decode cX0_amountsOf 28 = .ok (.iload 4, 2) := by decide +kernel
theorem dX0_amountsOf_30 : decode cX0_amountsOf 30 = .ok (.invokevirtual 109, 3) := by decide +kernel
theorem dX0_amountsOf_33 : decode cX0_amountsOf 33 = .ok (.ifCond .ne 26, 3) := by decide +kernel
theorem dX0_amountsOf_36 : decode cX0_amountsOf 36 = .ok (.iload_n 2, 1) := by decide +kernel
theorem dX0_amountsOf_37 : decode cX0_amountsOf 37 = .ok (.iconst 3, 1) := by decide +kernel
theorem dX0_amountsOf_38 : decode cX0_amountsOf 38 = .ok (.if_icmp .ne 25, 3) := by decide +kernel
theorem dX0_amountsOf_41 : decode cX0_amountsOf 41 = .ok (.aload_n 0, 1) := by decide +kernel
theorem dX0_amountsOf_42 : decode cX0_amountsOf 42 = .ok (.iload 4, 2) := by decide +kernel
theorem dX0_amountsOf_44 : decode cX0_amountsOf 44 = .ok (.invokevirtual 106, 3) := by decide +kernel
theorem dX0_amountsOf_47 : decode cX0_amountsOf 47 = .ok (.ifCond .eq 16, 3) := by decide +kernel
theorem dX0_amountsOf_50 : decode cX0_amountsOf 50 = .ok (.aload_n 0, 1) := by decide +kernel
theorem dX0_amountsOf_51 : decode cX0_amountsOf 51 = .ok (.iload 4, 2) := by decide +kernel
theorem dX0_amountsOf_53 : decode cX0_amountsOf 53 = .ok (.invokevirtual 109, 3) := by decide +kernel
theorem dX0_amountsOf_56 : decode cX0_amountsOf 56 = .ok (.ifCond .ne 7, 3) := by decide +kernel
theorem dX0_amountsOf_59 : decode cX0_amountsOf 59 = .ok (.iconst 1, 1) := by decide +kernel
theorem dX0_amountsOf_60 : decode cX0_amountsOf 60 = .ok (.goto 4, 3) := by decide +kernel
theorem dX0_amountsOf_63 : decode cX0_amountsOf 63 = .ok (.iconst 0, 1) := by decide +kernel
theorem dX0_amountsOf_64 : decode cX0_amountsOf 64 = .ok (.istore 5, 2) := by decide +kernel
theorem dX0_amountsOf_66 : decode cX0_amountsOf 66 = .ok (.iload 5, 2) := by decide +kernel
theorem dX0_amountsOf_68 : decode cX0_amountsOf 68 = .ok (.ifCond .eq 26, 3) := by decide +kernel
theorem dX0_amountsOf_71 : decode cX0_amountsOf 71 = .ok (.aload_n 0, 1) := by decide +kernel
theorem dX0_amountsOf_72 : decode cX0_amountsOf 72 = .ok (.iload 4, 2) := by decide +kernel
theorem dX0_amountsOf_74 : decode cX0_amountsOf 74 = .ok (.iload_n 1, 1) := by decide +kernel
theorem dX0_amountsOf_75 : decode cX0_amountsOf 75 = .ok (.invokevirtual 92, 3) := by decide +kernel
theorem dX0_amountsOf_78 : decode cX0_amountsOf 78 = .ok (.ifCond .eq 16, 3) := by decide +kernel
theorem dX0_amountsOf_81 : decode cX0_amountsOf 81 = .ok (.iload_n 3, 1) := by decide +kernel
theorem dX0_amountsOf_82 : decode cX0_amountsOf 82 = .ok (.aload_n 0, 1) := by decide +kernel
theorem dX0_amountsOf_83 : decode cX0_amountsOf 83 = .ok (.getfield 27, 3) := by decide +kernel
theorem dX0_amountsOf_86 : decode cX0_amountsOf 86 = .ok (.iload 4, 2) := by decide +kernel
theorem dX0_amountsOf_88 : decode cX0_amountsOf 88 = .ok (.iconst 2, 1) := by decide +kernel
theorem dX0_amountsOf_89 : decode cX0_amountsOf 89 = .ok (.invokevirtual 58, 3) := by decide +kernel
theorem dX0_amountsOf_92 : decode cX0_amountsOf 92 = .ok (.iadd, 1) := by decide +kernel
theorem dX0_amountsOf_93 : decode cX0_amountsOf 93 = .ok (.istore_n 3, 1) := by decide +kernel
theorem dX0_amountsOf_94 : decode cX0_amountsOf 94 = .ok (.iinc 4 1, 3) := by decide +kernel
theorem dX0_amountsOf_97 : decode cX0_amountsOf 97 = .ok (.goto (-92), 3) := by decide +kernel
theorem dX0_amountsOf_100 : decode cX0_amountsOf 100 = .ok (.iload_n 3, 1) := by decide +kernel
theorem dX0_amountsOf_101 : decode cX0_amountsOf 101 = .ok (.ireturn, 1) := by decide +kernel
theorem dX0_runningPledgesOf_0 : decode cX0_runningPledgesOf 0 = .ok (.iconst 0, 1) := by decide +kernel
theorem dX0_runningPledgesOf_1 : decode cX0_runningPledgesOf 1 = .ok (.istore_n 2, 1) := by decide +kernel
theorem dX0_runningPledgesOf_2 : decode cX0_runningPledgesOf 2 = .ok (.iconst 0, 1) := by decide +kernel
theorem dX0_runningPledgesOf_3 : decode cX0_runningPledgesOf 3 = .ok (.istore_n 3, 1) := by decide +kernel
theorem dX0_runningPledgesOf_4 : decode cX0_runningPledgesOf 4 = .ok (.iload_n 3, 1) := by decide +kernel
theorem dX0_runningPledgesOf_5 : decode cX0_runningPledgesOf 5 = .ok (.aload_n 0, 1) := by decide +kernel
theorem dX0_runningPledgesOf_6 : decode cX0_runningPledgesOf 6 = .ok (.getfield 30, 3) := by decide +kernel
theorem dX0_runningPledgesOf_9 : decode cX0_runningPledgesOf 9 = .ok (.invokevirtual 86, 3) := by decide +kernel
theorem dX0_runningPledgesOf_12 : decode cX0_runningPledgesOf 12 = .ok (.if_icmp .ge 36, 3) := by decide +kernel
theorem dX0_runningPledgesOf_15 : decode cX0_runningPledgesOf 15 = .ok (.aload_n 0, 1) := by decide +kernel
theorem dX0_runningPledgesOf_16 : decode cX0_runningPledgesOf 16 = .ok (.iload_n 3, 1) := by decide +kernel
theorem dX0_runningPledgesOf_17 : decode cX0_runningPledgesOf 17 = .ok (.invokevirtual 79, 3) := by decide +kernel
theorem dX0_runningPledgesOf_20 : decode cX0_runningPledgesOf 20 = .ok (.ifCond .eq 22, 3) := by decide +kernel
theorem dX0_runningPledgesOf_23 : decode cX0_runningPledgesOf 23 = .ok (.aload_n 0, 1) := by decide +kernel
theorem dX0_runningPledgesOf_24 : decode cX0_runningPledgesOf 24 = .ok (.getfield 30, 3) := by decide +kernel
theorem dX0_runningPledgesOf_27 : decode cX0_runningPledgesOf 27 = .ok (.iload_n 3, 1) := by decide +kernel
theorem dX0_runningPledgesOf_28 : decode cX0_runningPledgesOf 28 = .ok (.iconst 0, 1) := by decide +kernel
theorem dX0_runningPledgesOf_29 : decode cX0_runningPledgesOf 29 = .ok (.invokevirtual 58, 3) := by decide +kernel
theorem dX0_runningPledgesOf_32 : decode cX0_runningPledgesOf 32 = .ok (.iload_n 1, 1) := by decide +kernel
theorem dX0_runningPledgesOf_33 : decode cX0_runningPledgesOf 33 = .ok (.if_icmp .ne 9, 3) := by decide +kernel
theorem dX0_runningPledgesOf_36 : decode cX0_runningPledgesOf 36 = .ok (.iload_n 2, 1) := by decide +kernel
theorem dX0_runningPledgesOf_37 : decode cX0_runningPledgesOf 37 = .ok (.iconst 1, 1) := by decide +kernel
theorem dX0_runningPledgesOf_38 : decode cX0_runningPledgesOf 38 = .ok (.iload_n 3, 1) := by decide +kernel
theorem dX0_runningPledgesOf_39 : decode cX0_runningPledgesOf 39 = .ok (.ishl, 1) := by decide +kernel
theorem dX0_runningPledgesOf_40 : decode cX0_runningPledgesOf 40 = .ok (.ior, 1) := by decide +kernel
theorem dX0_runningPledgesOf_41 : decode cX0_runningPledgesOf 41 = .ok (.istore_n 2, 1) := by decide +kernel
theorem dX0_runningPledgesOf_42 : decode cX0_runningPledgesOf 42 = .ok (.iinc 3 1, 3) := by decide +kernel
theorem dX0_runningPledgesOf_45 : decode cX0_runningPledgesOf 45 = .ok (.goto (-41), 3) := by decide +kernel
theorem dX0_runningPledgesOf_48 : decode cX0_runningPledgesOf 48 = .ok (.iload_n 2, 1) := by decide +kernel
theorem dX0_runningPledgesOf_49 : decode cX0_runningPledgesOf 49 = .ok (.ireturn, 1) := by decide +kernel
theorem dX0_tellGift_0 : decode cX0_tellGift 0 = .ok (.aload_n 0, 1) := by decide +kernel
theorem dX0_tellGift_1 : decode cX0_tellGift 1 = .ok (.getfield 27, 3) := by decide +kernel
theorem dX0_tellGift_4 : decode cX0_tellGift 4 = .ok (.iload_n 1, 1) := by decide +kernel
theorem dX0_tellGift_5 : decode cX0_tellGift 5 = .ok (.invokevirtual 50, 3) := by decide +kernel
theorem dX0_tellGift_8 : decode cX0_tellGift 8 = .ok (.ifCond .eq 13, 3) := by decide +kernel
theorem dX0_tellGift_11 : decode cX0_tellGift 11 = .ok (.iload_n 2, 1) := by decide +kernel
theorem dX0_tellGift_12 : decode cX0_tellGift 12 = .ok (.iconst 0, 1) := by decide +kernel
theorem dX0_tellGift_13 : decode cX0_tellGift 13 = .ok (.bipush 7, 2) := by decide +kernel
theorem dX0_tellGift_15 : decode cX0_tellGift 15 = .ok (.invokestatic 54, 3) := by decide +kernel
theorem dX0_tellGift_18 : decode cX0_tellGift 18 = .ok (.ifCond .ne 5, 3) := by decide +kernel
theorem dX0_tellGift_21 : decode cX0_tellGift 21 = .ok (.iconst (-1), 1) := by decide +kernel
theorem dX0_tellGift_22 : decode cX0_tellGift 22 = .ok (.ireturn, 1) := by decide +kernel
theorem dX0_tellGift_23 : decode cX0_tellGift 23 = .ok (.iload_n 2, 1) := by decide +kernel
theorem dX0_tellGift_24 : decode cX0_tellGift 24 = .ok (.bipush 7, 2) := by decide +kernel
theorem dX0_tellGift_26 : decode cX0_tellGift 26 = .ok (.if_icmp .ne 9, 3) := by decide +kernel
theorem dX0_tellGift_29 : decode cX0_tellGift 29 = .ok (.aload_n 0, 1) := by decide +kernel
theorem dX0_tellGift_30 : decode cX0_tellGift 30 = .ok (.iload_n 1, 1) := by decide +kernel
theorem dX0_tellGift_31 : decode cX0_tellGift 31 = .ok (.invokevirtual 103, 3) := by decide +kernel
theorem dX0_tellGift_34 : decode cX0_tellGift 34 = .ok (.ireturn, 1) := by decide +kernel
theorem dX0_tellGift_35 : decode cX0_tellGift 35 = .ok (.aload_n 0, 1) := by decide +kernel
theorem dX0_tellGift_36 : decode cX0_tellGift 36 = .ok (.getfield 27, 3) := by decide +kernel
theorem dX0_tellGift_39 : decode cX0_tellGift 39 = .ok (.iload_n 1, 1) := by decide +kernel
theorem dX0_tellGift_40 : decode cX0_tellGift 40 = .ok (.iload_n 2, 1) := by decide +kernel
theorem dX0_tellGift_41 : decode cX0_tellGift 41 = .ok (.invokevirtual 58, 3) := by decide +kernel
theorem dX0_tellGift_44 : decode cX0_tellGift 44 = .ok (.istore_n 3, 1) := by decide +kernel
theorem dX0_tellGift_45 : decode cX0_tellGift 45 = .ok (.iload_n 2, 1) := by decide +kernel
theorem dX0_tellGift_46 : decode cX0_tellGift 46 = .ok (.bipush 6, 2) := by decide +kernel
theorem dX0_tellGift_48 : decode cX0_tellGift 48 = .ok (.if_icmp .ne 13, 3) := by decide +kernel
theorem dX0_tellGift_51 : decode cX0_tellGift 51 = .ok (.iload_n 3, 1) := by decide +kernel
theorem dX0_tellGift_52 : decode cX0_tellGift 52 = .ok (.iconst (-1), 1) := by decide +kernel
theorem dX0_tellGift_53 : decode cX0_tellGift 53 = .ok (.if_icmp .ne 8, 3) := by decide +kernel
theorem dX0_tellGift_56 : decode cX0_tellGift 56 = .ok (.bipush (-4), 2) := by decide +kernel
theorem dX0_tellGift_58 : decode cX0_tellGift 58 = .ok (.goto 4, 3) := by decide +kernel
theorem dX0_tellGift_61 : decode cX0_tellGift 61 = .ok (.iload_n 3, 1) := by decide +kernel
theorem dX0_tellGift_62 : decode cX0_tellGift 62 = .ok (.ireturn, 1) := by decide +kernel
theorem dX0_tellPledge_0 : decode cX0_tellPledge 0 = .ok (.aload_n 0, 1) := by decide +kernel
theorem dX0_tellPledge_1 : decode cX0_tellPledge 1 = .ok (.getfield 30, 3) := by decide +kernel
theorem dX0_tellPledge_4 : decode cX0_tellPledge 4 = .ok (.iload_n 1, 1) := by decide +kernel
theorem dX0_tellPledge_5 : decode cX0_tellPledge 5 = .ok (.invokevirtual 50, 3) := by decide +kernel
theorem dX0_tellPledge_8 : decode cX0_tellPledge 8 = .ok (.ifCond .eq 13, 3) := by decide +kernel
theorem dX0_tellPledge_11 : decode cX0_tellPledge 11 = .ok (.iload_n 2, 1) := by decide +kernel
theorem dX0_tellPledge_12 : decode cX0_tellPledge 12 = .ok (.iconst 0, 1) := by decide +kernel
theorem dX0_tellPledge_13 : decode cX0_tellPledge 13 = .ok (.bipush 7, 2) := by decide +kernel
theorem dX0_tellPledge_15 : decode cX0_tellPledge 15 = .ok (.invokestatic 54, 3) := by decide +kernel
theorem dX0_tellPledge_18 : decode cX0_tellPledge 18 = .ok (.ifCond .ne 5, 3) := by decide +kernel
theorem dX0_tellPledge_21 : decode cX0_tellPledge 21 = .ok (.iconst (-1), 1) := by decide +kernel
theorem dX0_tellPledge_22 : decode cX0_tellPledge 22 = .ok (.ireturn, 1) := by decide +kernel
theorem dX0_tellPledge_23 : decode cX0_tellPledge 23 = .ok (.aload_n 0, 1) := by decide +kernel
theorem dX0_tellPledge_24 : decode cX0_tellPledge 24 = .ok (.getfield 30, 3) := by decide +kernel
theorem dX0_tellPledge_27 : decode cX0_tellPledge 27 = .ok (.iload_n 1, 1) := by decide +kernel
theorem dX0_tellPledge_28 : decode cX0_tellPledge 28 = .ok (.iload_n 2, 1) := by decide +kernel
theorem dX0_tellPledge_29 : decode cX0_tellPledge 29 = .ok (.invokevirtual 58, 3) := by decide +kernel
theorem dX0_tellPledge_32 : decode cX0_tellPledge 32 = .ok (.ireturn, 1) := by decide +kernel
theorem dX0_tellNumber_0 : decode cX0_tellNumber 0 = .ok (.iload_n 1, 1) := by decide +kernel
theorem dX0_tellNumber_1 : decode cX0_tellNumber 1 = .ok (.tableswitch 179 0 14 #[75, 83, 91, 99, 107, 114, 123, 132, 141, 151, 160, 179, 179, 165, 172], 75) := by decide +kernel
theorem dX0_tellNumber_76 : decode cX0_tellNumber 76 = .ok (.aload_n 0, 1) := by decide +kernel
theorem dX0_tellNumber_77 : decode cX0_tellNumber 77 = .ok (.getfield 20, 3) := by decide +kernel
theorem dX0_tellNumber_80 : decode cX0_tellNumber 80 = .ok (.invokevirtual 86, 3) := by decide +kernel
theorem dX0_tellNumber_83 : decode cX0_tellNumber 83 = .ok (.ireturn, 1) := by decide +kernel
theorem dX0_tellNumber_84 : decode cX0_tellNumber 84 = .ok (.aload_n 0, 1) := by decide +kernel
theorem dX0_tellNumber_85 : decode cX0_tellNumber 85 = .ok (.getfield 24, 3) := by decide +kernel
theorem dX0_tellNumber_88 : decode cX0_tellNumber 88 = .ok (.invokevirtual 86, 3) := by decide +kernel
theorem dX0_tellNumber_91 : decode cX0_tellNumber 91 = .ok (.ireturn, 1) := by decide +kernel
theorem dX0_tellNumber_92 : decode cX0_tellNumber 92 = .ok (.aload_n 0, 1) := by decide +kernel
theorem dX0_tellNumber_93 : decode cX0_tellNumber 93 = .ok (.getfield 27, 3) := by decide +kernel
theorem dX0_tellNumber_96 : decode cX0_tellNumber 96 = .ok (.invokevirtual 86, 3) := by decide +kernel
theorem dX0_tellNumber_99 : decode cX0_tellNumber 99 = .ok (.ireturn, 1) := by decide +kernel
theorem dX0_tellNumber_100 : decode cX0_tellNumber 100 = .ok (.aload_n 0, 1) := by decide +kernel
theorem dX0_tellNumber_101 : decode cX0_tellNumber 101 = .ok (.getfield 30, 3) := by decide +kernel
theorem dX0_tellNumber_104 : decode cX0_tellNumber 104 = .ok (.invokevirtual 86, 3) := by decide +kernel
theorem dX0_tellNumber_107 : decode cX0_tellNumber 107 = .ok (.ireturn, 1) := by decide +kernel
theorem dX0_tellNumber_108 : decode cX0_tellNumber 108 = .ok (.aload_n 0, 1) := by decide +kernel
theorem dX0_tellNumber_109 : decode cX0_tellNumber 109 = .ok (.getfield 11, 3) := by decide +kernel
theorem dX0_tellNumber_112 : decode cX0_tellNumber 112 = .ok (.iconst 0, 1) := by decide +kernel
theorem dX0_tellNumber_113 : decode cX0_tellNumber 113 = .ok (.iaload, 1) := by decide +kernel
theorem dX0_tellNumber_114 : decode cX0_tellNumber 114 = .ok (.ireturn, 1) := by decide +kernel
theorem dX0_tellNumber_115 : decode cX0_tellNumber 115 = .ok (.aload_n 0, 1) := by decide +kernel
theorem dX0_tellNumber_116 : decode cX0_tellNumber 116 = .ok (.getfield 20, 3) := by decide +kernel
theorem dX0_tellNumber_119 : decode cX0_tellNumber 119 = .ok (.iconst 0, 1) := by decide +kernel
theorem dX0_tellNumber_120 : decode cX0_tellNumber 120 = .ok (.invokevirtual 167, 3) := by decide +kernel
theorem dX0_tellNumber_123 : decode cX0_tellNumber 123 = .ok (.ireturn, 1) := by decide +kernel
theorem dX0_tellNumber_124 : decode cX0_tellNumber 124 = .ok (.aload_n 0, 1) := by decide +kernel
theorem dX0_tellNumber_125 : decode cX0_tellNumber 125 = .ok (.getfield 20, 3) := by decide +kernel
theorem dX0_tellNumber_128 : decode cX0_tellNumber 128 = .ok (.iconst 3, 1) := by decide +kernel
theorem dX0_tellNumber_129 : decode cX0_tellNumber 129 = .ok (.invokevirtual 167, 3) := by decide +kernel
theorem dX0_tellNumber_132 : decode cX0_tellNumber 132 = .ok (.ireturn, 1) := by decide +kernel
theorem dX0_tellNumber_133 : decode cX0_tellNumber 133 = .ok (.aload_n 0, 1) := by decide +kernel
theorem dX0_tellNumber_134 : decode cX0_tellNumber 134 = .ok (.getfield 20, 3) := by decide +kernel
theorem dX0_tellNumber_137 : decode cX0_tellNumber 137 = .ok (.iconst 2, 1) := by decide +kernel
theorem dX0_tellNumber_138 : decode cX0_tellNumber 138 = .ok (.invokevirtual 167, 3) := by decide +kernel
theorem dX0_tellNumber_141 : decode cX0_tellNumber 141 = .ok (.ireturn, 1) := by decide +kernel
theorem dX0_tellNumber_142 : decode cX0_tellNumber 142 = .ok (.aload_n 0, 1) := by decide +kernel
theorem dX0_tellNumber_143 : decode cX0_tellNumber 143 = .ok (.getfield 20, 3) := by decide +kernel
theorem dX0_tellNumber_146 : decode cX0_tellNumber 146 = .ok (.bipush 6, 2) := by decide +kernel
theorem dX0_tellNumber_148 : decode cX0_tellNumber 148 = .ok (.invokevirtual 167, 3) := by decide +kernel
theorem dX0_tellNumber_151 : decode cX0_tellNumber 151 = .ok (.ireturn, 1) := by decide +kernel
theorem dX0_tellNumber_152 : decode cX0_tellNumber 152 = .ok (.aload_n 0, 1) := by decide +kernel
theorem dX0_tellNumber_153 : decode cX0_tellNumber 153 = .ok (.getfield 20, 3) := by decide +kernel
theorem dX0_tellNumber_156 : decode cX0_tellNumber 156 = .ok (.iconst 5, 1) := by decide +kernel
theorem dX0_tellNumber_157 : decode cX0_tellNumber 157 = .ok (.invokevirtual 167, 3) := by decide +kernel
theorem dX0_tellNumber_160 : decode cX0_tellNumber 160 = .ok (.ireturn, 1) := by decide +kernel
theorem dX0_tellNumber_161 : decode cX0_tellNumber 161 = .ok (.aload_n 0, 1) := by decide +kernel
theorem dX0_tellNumber_162 : decode cX0_tellNumber 162 = .ok (.invokevirtual 170, 3) := by decide +kernel
theorem dX0_tellNumber_165 : decode cX0_tellNumber 165 = .ok (.ireturn, 1) := by decide +kernel
theorem dX0_tellNumber_166 : decode cX0_tellNumber 166 = .ok (.aload_n 0, 1) := by decide +kernel
theorem dX0_tellNumber_167 : decode cX0_tellNumber 167 = .ok (.getfield 11, 3) := by decide +kernel
theorem dX0_tellNumber_170 : decode cX0_tellNumber 170 = .ok (.iconst 1, 1) := by decide +kernel
theorem dX0_tellNumber_171 : decode cX0_tellNumber 171 = .ok (.iaload, 1) := by decide +kernel
theorem dX0_tellNumber_172 : decode cX0_tellNumber 172 = .ok (.ireturn, 1) := by decide +kernel
theorem dX0_tellNumber_173 : decode cX0_tellNumber 173 = .ok (.aload_n 0, 1) := by decide +kernel
theorem dX0_tellNumber_174 : decode cX0_tellNumber 174 = .ok (.getfield 11, 3) := by decide +kernel
theorem dX0_tellNumber_177 : decode cX0_tellNumber 177 = .ok (.iconst 2, 1) := by decide +kernel
theorem dX0_tellNumber_178 : decode cX0_tellNumber 178 = .ok (.iaload, 1) := by decide +kernel
theorem dX0_tellNumber_179 : decode cX0_tellNumber 179 = .ok (.ireturn, 1) := by decide +kernel
theorem dX0_tellNumber_180 : decode cX0_tellNumber 180 = .ok (.iconst (-1), 1) := by decide +kernel
theorem dX0_tellNumber_181 : decode cX0_tellNumber 181 = .ok (.ireturn, 1) := by decide +kernel
theorem dX0_closedPurposes_0 : decode cX0_closedPurposes 0 = .ok (.iconst 0, 1) := by decide +kernel
theorem dX0_closedPurposes_1 : decode cX0_closedPurposes 1 = .ok (.istore_n 1, 1) := by decide +kernel
theorem dX0_closedPurposes_2 : decode cX0_closedPurposes 2 = .ok (.iconst 0, 1) := by decide +kernel
theorem dX0_closedPurposes_3 : decode cX0_closedPurposes 3 = .ok (.istore_n 2, 1) := by decide +kernel
theorem dX0_closedPurposes_4 : decode cX0_closedPurposes 4 = .ok (.iload_n 2, 1) := by decide +kernel
theorem dX0_closedPurposes_5 : decode cX0_closedPurposes 5 = .ok (.aload_n 0, 1) := by decide +kernel
theorem dX0_closedPurposes_6 : decode cX0_closedPurposes 6 = .ok (.getfield 20, 3) := by decide +kernel
theorem dX0_closedPurposes_9 : decode cX0_closedPurposes 9 = .ok (.invokevirtual 86, 3) := by decide +kernel
theorem dX0_closedPurposes_12 : decode cX0_closedPurposes 12 = .ok (.if_icmp .ge 20, 3) := by decide +kernel
theorem dX0_closedPurposes_15 : decode cX0_closedPurposes 15 = .ok (.aload_n 0, 1) := by decide +kernel
theorem dX0_closedPurposes_16 : decode cX0_closedPurposes 16 = .ok (.iload_n 2, 1) := by decide +kernel
theorem dX0_closedPurposes_17 : decode cX0_closedPurposes 17 = .ok (.invokevirtual 62, 3) := by decide +kernel
theorem dX0_closedPurposes_20 : decode cX0_closedPurposes 20 = .ok (.ifCond .eq 6, 3) := by decide +kernel
theorem dX0_closedPurposes_23 : decode cX0_closedPurposes 23 = .ok (.iinc 1 1, 3) := by decide +kernel
theorem dX0_closedPurposes_26 : decode cX0_closedPurposes 26 = .ok (.iinc 2 1, 3) := by decide +kernel
theorem dX0_closedPurposes_29 : decode cX0_closedPurposes 29 = .ok (.goto (-25), 3) := by decide +kernel
theorem dX0_closedPurposes_32 : decode cX0_closedPurposes 32 = .ok (.iload_n 1, 1) := by decide +kernel
theorem dX0_closedPurposes_33 : decode cX0_closedPurposes 33 = .ok (.ireturn, 1) := by decide +kernel
theorem dX1_init_0 : decode cX1_init 0 = .ok (.aload_n 0, 1) := by decide +kernel
theorem dX1_init_1 : decode cX1_init 1 = .ok (.invokespecial 5, 3) := by decide +kernel
theorem dX1_init_4 : decode cX1_init 4 = .ok (.aload_n 0, 1) := by decide +kernel
theorem dX1_init_5 : decode cX1_init 5 = .ok (.iconst 5, 1) := by decide +kernel
theorem dX1_init_6 : decode cX1_init 6 = .ok (.sipush 351, 3) := by decide +kernel
theorem dX1_init_9 : decode cX1_init 9 = .ok (.multianewarray 13 2, 4) := by decide +kernel
theorem dX1_init_13 : decode cX1_init 13 = .ok (.putfield 15, 3) := by decide +kernel
theorem dX1_init_16 : decode cX1_init 16 = .ok (.aload_n 0, 1) := by decide +kernel
theorem dX1_init_17 : decode cX1_init 17 = .ok (.iconst 0, 1) := by decide +kernel
theorem dX1_init_18 : decode cX1_init 18 = .ok (.putfield 18, 3) := by decide +kernel
theorem dX1_init_21 : decode cX1_init 21 = .ok (.aload_n 0, 1) := by decide +kernel
theorem dX1_init_22 : decode cX1_init 22 = .ok (.iconst 0, 1) := by decide +kernel
theorem dX1_init_23 : decode cX1_init 23 = .ok (.putfield 22, 3) := by decide +kernel
theorem dX1_init_26 : decode cX1_init 26 = .ok (.return_, 1) := by decide +kernel
theorem dX1_size_0 : decode cX1_size 0 = .ok (.aload_n 0, 1) := by decide +kernel
theorem dX1_size_1 : decode cX1_size 1 = .ok (.getfield 22, 3) := by decide +kernel
theorem dX1_size_4 : decode cX1_size 4 = .ok (.ireturn, 1) := by decide +kernel
theorem dX1_draft_0 : decode cX1_draft 0 = .ok (.aload_n 1, 1) := by decide +kernel
theorem dX1_draft_1 : decode cX1_draft 1 = .ok (.aload_n 0, 1) := by decide +kernel
theorem dX1_draft_2 : decode cX1_draft 2 = .ok (.getfield 15, 3) := by decide +kernel
theorem dX1_draft_5 : decode cX1_draft 5 = .ok (.aload_n 0, 1) := by decide +kernel
theorem dX1_draft_6 : decode cX1_draft 6 = .ok (.getfield 18, 3) := by decide +kernel
theorem dX1_draft_9 : decode cX1_draft 9 = .ok (.aload_n 0, 1) := by decide +kernel
theorem dX1_draft_10 : decode cX1_draft 10 = .ok (.getfield 22, 3) := by decide +kernel
theorem dX1_draft_13 : decode cX1_draft 13 = .ok (.iadd, 1) := by decide +kernel
theorem dX1_draft_14 : decode cX1_draft 14 = .ok (.iconst 5, 1) := by decide +kernel
theorem dX1_draft_15 : decode cX1_draft 15 = .ok (.irem, 1) := by decide +kernel
theorem dX1_draft_16 : decode cX1_draft 16 = .ok (.aaload, 1) := by decide +kernel
theorem dX1_draft_17 : decode cX1_draft 17 = .ok (.invokevirtual 25, 3) := by decide +kernel
theorem dX1_draft_20 : decode cX1_draft 20 = .ok (.return_, 1) := by decide +kernel
theorem dX1_keepUnlessError_0 : decode cX1_keepUnlessError 0 = .ok (.iload_n 1, 1) := by decide +kernel
theorem dX1_keepUnlessError_1 : decode cX1_keepUnlessError 1 = .ok (.ifCond .lt 36, 3) := by decide +kernel
theorem dX1_keepUnlessError_4 : decode cX1_keepUnlessError 4 = .ok (.aload_n 0, 1) := by decide +kernel
theorem dX1_keepUnlessError_5 : decode cX1_keepUnlessError 5 = .ok (.getfield 22, 3) := by decide +kernel
theorem dX1_keepUnlessError_8 : decode cX1_keepUnlessError 8 = .ok (.iconst 4, 1) := by decide +kernel
theorem dX1_keepUnlessError_9 : decode cX1_keepUnlessError 9 = .ok (.if_icmp .ge 16, 3) := by decide +kernel
theorem dX1_keepUnlessError_12 : decode cX1_keepUnlessError 12 = .ok (.aload_n 0, 1) := by decide +kernel
theorem dX1_keepUnlessError_13 : decode cX1_keepUnlessError 13 = .ok (.dup, 1) := by decide +kernel
theorem dX1_keepUnlessError_14 : decode cX1_keepUnlessError 14 = .ok (.getfield 22, 3) := by decide +kernel
theorem dX1_keepUnlessError_17 : decode cX1_keepUnlessError 17 = .ok (.iconst 1, 1) := by decide +kernel
theorem dX1_keepUnlessError_18 : decode cX1_keepUnlessError 18 = .ok (.iadd, 1) := by decide +kernel
theorem dX1_keepUnlessError_19 : decode cX1_keepUnlessError 19 = .ok (.putfield 22, 3) := by decide +kernel
theorem dX1_keepUnlessError_22 : decode cX1_keepUnlessError 22 = .ok (.goto 15, 3) := by decide +kernel
theorem dX1_keepUnlessError_25 : decode cX1_keepUnlessError 25 = .ok (.aload_n 0, 1) := by decide +kernel
theorem dX1_keepUnlessError_26 : decode cX1_keepUnlessError 26 = .ok (.aload_n 0, 1) := by decide +kernel
theorem dX1_keepUnlessError_27 : decode cX1_keepUnlessError 27 = .ok (.getfield 18, 3) := by decide +kernel
theorem dX1_keepUnlessError_30 : decode cX1_keepUnlessError 30 = .ok (.iconst 1, 1) := by decide +kernel
theorem dX1_keepUnlessError_31 : decode cX1_keepUnlessError 31 = .ok (.iadd, 1) := by decide +kernel
theorem dX1_keepUnlessError_32 : decode cX1_keepUnlessError 32 = .ok (.iconst 5, 1) := by decide +kernel
theorem dX1_keepUnlessError_33 : decode cX1_keepUnlessError 33 = .ok (.irem, 1) := by decide +kernel
theorem dX1_keepUnlessError_34 : decode cX1_keepUnlessError 34 = .ok (.putfield 18, 3) := by decide +kernel
theorem dX1_keepUnlessError_37 : decode cX1_keepUnlessError 37 = .ok (.iload_n 1, 1) := by decide +kernel
theorem dX1_keepUnlessError_38 : decode cX1_keepUnlessError 38 = .ok (.ireturn, 1) := by decide +kernel
theorem dX1_restoreLatest_0 : decode cX1_restoreLatest 0 = .ok (.aload_n 0, 1) := by decide +kernel
theorem dX1_restoreLatest_1 : decode cX1_restoreLatest 1 = .ok (.getfield 22, 3) := by decide +kernel
theorem dX1_restoreLatest_4 : decode cX1_restoreLatest 4 = .ok (.ifCond .ne 6, 3) := by decide +kernel
theorem dX1_restoreLatest_7 : decode cX1_restoreLatest 7 = .ok (.bipush (-2), 2) := by decide +kernel
theorem dX1_restoreLatest_9 : decode cX1_restoreLatest 9 = .ok (.ireturn, 1) := by decide +kernel
theorem dX1_restoreLatest_10 : decode cX1_restoreLatest 10 = .ok (.aload_n 0, 1) := by decide +kernel
theorem dX1_restoreLatest_11 : decode cX1_restoreLatest 11 = .ok (.dup, 1) := by decide +kernel
theorem dX1_restoreLatest_12 : decode cX1_restoreLatest 12 = .ok (.getfield 22, 3) := by decide +kernel
theorem dX1_restoreLatest_15 : decode cX1_restoreLatest 15 = .ok (.iconst 1, 1) := by decide +kernel
theorem dX1_restoreLatest_16 : decode cX1_restoreLatest 16 = .ok (.isub, 1) := by decide +kernel
theorem dX1_restoreLatest_17 : decode cX1_restoreLatest 17 = .ok (.putfield 22, 3) := by decide +kernel
theorem dX1_restoreLatest_20 : decode cX1_restoreLatest 20 = .ok (.aload_n 1, 1) := by decide +kernel
theorem dX1_restoreLatest_21 : decode cX1_restoreLatest 21 = .ok (.aload_n 0, 1) := by decide +kernel
theorem dX1_restoreLatest_22 : decode cX1_restoreLatest 22 = .ok (.getfield 15, 3) := by decide +kernel
theorem dX1_restoreLatest_25 : decode cX1_restoreLatest 25 = .ok (.aload_n 0, 1) := by decide +kernel
theorem dX1_restoreLatest_26 : decode cX1_restoreLatest 26 = .ok (.getfield 18, 3) := by decide +kernel
theorem dX1_restoreLatest_29 : decode cX1_restoreLatest 29 = .ok (.aload_n 0, 1) := by decide +kernel
theorem dX1_restoreLatest_30 : decode cX1_restoreLatest 30 = .ok (.getfield 22, 3) := by decide +kernel
theorem dX1_restoreLatest_33 : decode cX1_restoreLatest 33 = .ok (.iadd, 1) := by decide +kernel
theorem dX1_restoreLatest_34 : decode cX1_restoreLatest 34 = .ok (.iconst 5, 1) := by decide +kernel
theorem dX1_restoreLatest_35 : decode cX1_restoreLatest 35 = .ok (.irem, 1) := by decide +kernel
theorem dX1_restoreLatest_36 : decode cX1_restoreLatest 36 = .ok (.aaload, 1) := by decide +kernel
theorem dX1_restoreLatest_37 : decode cX1_restoreLatest 37 = .ok (.invokevirtual 29, 3) := by decide +kernel
theorem dX1_restoreLatest_40 : decode cX1_restoreLatest 40 = .ok (.aload_n 0, 1) := by decide +kernel
theorem dX1_restoreLatest_41 : decode cX1_restoreLatest 41 = .ok (.getfield 22, 3) := by decide +kernel
theorem dX1_restoreLatest_44 : decode cX1_restoreLatest 44 = .ok (.ireturn, 1) := by decide +kernel
theorem dX2_init_0 : decode cX2_init 0 = .ok (.aload_n 0, 1) := by decide +kernel
theorem dX2_init_1 : decode cX2_init 1 = .ok (.invokespecial 3, 3) := by decide +kernel
theorem dX2_init_4 : decode cX2_init 4 = .ok (.aload_n 0, 1) := by decide +kernel
theorem dX2_init_5 : decode cX2_init 5 = .ok (.bipush 80, 2) := by decide +kernel
theorem dX2_init_7 : decode cX2_init 7 = .ok (.newarray .char, 2) := by decide +kernel
theorem dX2_init_9 : decode cX2_init 9 = .ok (.putfield 11, 3) := by decide +kernel
theorem dX2_init_12 : decode cX2_init 12 = .ok (.aload_n 0, 1) := by decide +kernel
theorem dX2_init_13 : decode cX2_init 13 = .ok (.iconst 0, 1) := by decide +kernel
theorem dX2_init_14 : decode cX2_init 14 = .ok (.putfield 15, 3) := by decide +kernel
theorem dX2_init_17 : decode cX2_init 17 = .ok (.aload_n 0, 1) := by decide +kernel
theorem dX2_init_18 : decode cX2_init 18 = .ok (.iconst 4, 1) := by decide +kernel
theorem dX2_init_19 : decode cX2_init 19 = .ok (.newarray .int, 2) := by decide +kernel
theorem dX2_init_21 : decode cX2_init 21 = .ok (.putfield 19, 3) := by decide +kernel
theorem dX2_init_24 : decode cX2_init 24 = .ok (.aload_n 0, 1) := by decide +kernel
theorem dX2_init_25 : decode cX2_init 25 = .ok (.iconst 0, 1) := by decide +kernel
theorem dX2_init_26 : decode cX2_init 26 = .ok (.putfield 23, 3) := by decide +kernel
theorem dX2_init_29 : decode cX2_init 29 = .ok (.aload_n 0, 1) := by decide +kernel
theorem dX2_init_30 : decode cX2_init 30 = .ok (.iconst 0, 1) := by decide +kernel
theorem dX2_init_31 : decode cX2_init 31 = .ok (.putfield 26, 3) := by decide +kernel
theorem dX2_init_34 : decode cX2_init 34 = .ok (.aload_n 0, 1) := by decide +kernel
theorem dX2_init_35 : decode cX2_init 35 = .ok (.iconst 0, 1) := by decide +kernel
theorem dX2_init_36 : decode cX2_init 36 = .ok (.putfield 29, 3) := by decide +kernel
theorem dX2_init_39 : decode cX2_init 39 = .ok (.aload_n 0, 1) := by decide +kernel
theorem dX2_init_40 : decode cX2_init 40 = .ok (.iconst 0, 1) := by decide +kernel
theorem dX2_init_41 : decode cX2_init 41 = .ok (.putfield 32, 3) := by decide +kernel
theorem dX2_init_44 : decode cX2_init 44 = .ok (.return_, 1) := by decide +kernel
theorem dX2_size_0 : decode cX2_size 0 = .ok (.aload_n 0, 1) := by decide +kernel
theorem dX2_size_1 : decode cX2_size 1 = .ok (.getfield 15, 3) := by decide +kernel
theorem dX2_size_4 : decode cX2_size 4 = .ok (.ireturn, 1) := by decide +kernel
theorem dX2_append_0 : decode cX2_append 0 = .ok (.iload_n 1, 1) := by decide +kernel
theorem dX2_append_1 : decode cX2_append 1 = .ok (.bipush 32, 2) := by decide +kernel
theorem dX2_append_3 : decode cX2_append 3 = .ok (.bipush 126, 2) := by decide +kernel
theorem dX2_append_5 : decode cX2_append 5 = .ok (.invokestatic 35, 3) := by decide +kernel
theorem dX2_append_8 : decode cX2_append 8 = .ok (.ifCond .ne 5, 3) := by decide +kernel
theorem dX2_append_11 : decode cX2_append 11 = .ok (.iconst (-1), 1) := by decide +kernel
theorem dX2_append_12 : decode cX2_append 12 = .ok (.ireturn, 1) := by decide +kernel
theorem dX2_append_13 : decode cX2_append 13 = .ok (.aload_n 0, 1) := by decide +kernel
theorem dX2_append_14 : decode cX2_append 14 = .ok (.getfield 15, 3) := by decide +kernel
theorem dX2_append_17 : decode cX2_append 17 = .ok (.bipush 80, 2) := by decide +kernel
theorem dX2_append_19 : decode cX2_append 19 = .ok (.if_icmp .lt 6, 3) := by decide +kernel
theorem dX2_append_22 : decode cX2_append 22 = .ok (.bipush (-3), 2) := by decide +kernel
theorem dX2_append_24 : decode cX2_append 24 = .ok (.ireturn, 1) := by decide +kernel
theorem dX2_append_25 : decode cX2_append 25 = .ok (.aload_n 0, 1) := by decide +kernel
theorem dX2_append_26 : decode cX2_append 26 = .ok (.getfield 11, 3) := by decide +kernel
theorem dX2_append_29 : decode cX2_append 29 = .ok (.aload_n 0, 1) := by decide +kernel
theorem dX2_append_30 : decode cX2_append 30 = .ok (.getfield 15, 3) := by decide +kernel
theorem dX2_append_33 : decode cX2_append 33 = .ok (.iload_n 1, 1) := by decide +kernel
theorem dX2_append_34 : decode cX2_append 34 = .ok (.i2c, 1) := by decide +kernel
theorem dX2_append_35 : decode cX2_append 35 = .ok (.castore, 1) := by decide +kernel
theorem dX2_append_36 : decode cX2_append 36 = .ok (.aload_n 0, 1) := by decide +kernel
theorem dX2_append_37 : decode cX2_append 37 = .ok (.dup, 1) := by decide +kernel
theorem dX2_append_38 : decode cX2_append 38 = .ok (.getfield 15, 3) := by decide +kernel
theorem dX2_append_41 : decode cX2_append 41 = .ok (.iconst 1, 1) := by decide +kernel
theorem dX2_append_42 : decode cX2_append 42 = .ok (.iadd, 1) := by decide +kernel
theorem dX2_append_43 : decode cX2_append 43 = .ok (.putfield 15, 3) := by decide +kernel
theorem dX2_append_46 : decode cX2_append 46 = .ok (.aload_n 0, 1) := by decide +kernel
theorem dX2_append_47 : decode cX2_append 47 = .ok (.getfield 15, 3) := by decide +kernel
theorem dX2_append_50 : decode cX2_append 50 = .ok (.ireturn, 1) := by decide +kernel
theorem dX2_empty_0 : decode cX2_empty 0 = .ok (.aload_n 0, 1) := by decide +kernel
theorem dX2_empty_1 : decode cX2_empty 1 = .ok (.getfield 15, 3) := by decide +kernel
theorem dX2_empty_4 : decode cX2_empty 4 = .ok (.istore_n 1, 1) := by decide +kernel
theorem dX2_empty_5 : decode cX2_empty 5 = .ok (.aload_n 0, 1) := by decide +kernel
theorem dX2_empty_6 : decode cX2_empty 6 = .ok (.iconst 0, 1) := by decide +kernel
theorem dX2_empty_7 : decode cX2_empty 7 = .ok (.putfield 15, 3) := by decide +kernel
theorem dX2_empty_10 : decode cX2_empty 10 = .ok (.iload_n 1, 1) := by decide +kernel
theorem dX2_empty_11 : decode cX2_empty 11 = .ok (.ireturn, 1) := by decide +kernel
theorem dX2_runOn_0 : decode cX2_runOn 0 = .ok (.aload_n 0, 1) := by decide +kernel
theorem dX2_runOn_1 : decode cX2_runOn 1 = .ok (.iconst 0, 1) := by decide +kernel
theorem dX2_runOn_2 : decode cX2_runOn 2 = .ok (.putfield 23, 3) := by decide +kernel
theorem dX2_runOn_5 : decode cX2_runOn 5 = .ok (.aload_n 0, 1) := by decide +kernel
theorem dX2_runOn_6 : decode cX2_runOn 6 = .ok (.iconst 0, 1) := by decide +kernel
theorem dX2_runOn_7 : decode cX2_runOn 7 = .ok (.putfield 29, 3) := by decide +kernel
theorem dX2_runOn_10 : decode cX2_runOn 10 = .ok (.iconst 0, 1) := by decide +kernel
theorem dX2_runOn_11 : decode cX2_runOn 11 = .ok (.istore_n 2, 1) := by decide +kernel
theorem dX2_runOn_12 : decode cX2_runOn 12 = .ok (.iload_n 2, 1) := by decide +kernel
theorem dX2_runOn_13 : decode cX2_runOn 13 = .ok (.bipush 80, 2) := by decide +kernel
theorem dX2_runOn_15 : decode cX2_runOn 15 = .ok (.if_icmp .ge 67, 3) := by decide +kernel
theorem dX2_runOn_18 : decode cX2_runOn 18 = .ok (.aload_n 0, 1) := by decide +kernel
theorem dX2_runOn_19 : decode cX2_runOn 19 = .ok (.getfield 23, 3) := by decide +kernel
theorem dX2_runOn_22 : decode cX2_runOn 22 = .ok (.aload_n 0, 1) := by decide +kernel
theorem dX2_runOn_23 : decode cX2_runOn 23 = .ok (.getfield 15, 3) := by decide +kernel
theorem dX2_runOn_26 : decode cX2_runOn 26 = .ok (.if_icmp .ge 56, 3) := by decide +kernel
theorem dX2_runOn_29 : decode cX2_runOn 29 = .ok (.aload_n 0, 1) := by decide +kernel
theorem dX2_runOn_30 : decode cX2_runOn 30 = .ok (.aload_n 0, 1) := by decide +kernel
theorem dX2_runOn_31 : decode cX2_runOn 31 = .ok (.getfield 23, 3) := by decide +kernel
theorem dX2_runOn_34 : decode cX2_runOn 34 = .ok (.putfield 26, 3) := by decide +kernel
theorem dX2_runOn_37 : decode cX2_runOn 37 = .ok (.aload_n 0, 1) := by decide +kernel
theorem dX2_runOn_38 : decode cX2_runOn 38 = .ok (.invokevirtual 39, 3) := by decide +kernel
theorem dX2_runOn_41 : decode cX2_runOn 41 = .ok (.istore_n 3, 1) := by decide +kernel
theorem dX2_runOn_42 : decode cX2_runOn 42 = .ok (.iload_n 3, 1) := by decide +kernel
theorem dX2_runOn_43 : decode cX2_runOn 43 = .ok (.iconst (-1), 1) := by decide +kernel
theorem dX2_runOn_44 : decode cX2_runOn 44 = .ok (.if_icmp .ne 11, 3) := by decide +kernel
theorem dX2_runOn_47 : decode cX2_runOn 47 = .ok (.aload_n 0, 1) := by decide +kernel
theorem dX2_runOn_48 : decode cX2_runOn 48 = .ok (.iconst 1, 1) := by decide +kernel
theorem dX2_runOn_49 : decode cX2_runOn 49 = .ok (.bipush (-4), 2) := by decide +kernel
theorem dX2_runOn_51 : decode cX2_runOn 51 = .ok (.invokevirtual 43, 3) := by decide +kernel
theorem dX2_runOn_54 : decode cX2_runOn 54 = .ok (.ireturn, 1) := by decide +kernel
theorem dX2_runOn_55 : decode cX2_runOn 55 = .ok (.aload_n 0, 1) := by decide +kernel
theorem dX2_runOn_56 : decode cX2_runOn 56 = .ok (.iload_n 3, 1) := by decide +kernel
theorem dX2_runOn_57 : decode cX2_runOn 57 = .ok (.aload_n 1, 1) := by decide +kernel
theorem dX2_runOn_58 : decode cX2_runOn 58 = .ok (.invokevirtual 47, 3) := by decide +kernel
theorem dX2_runOn_61 : decode cX2_runOn 61 = .ok (.istore 4, 2) := by decide +kernel
theorem dX2_runOn_63 : decode cX2_runOn 63 = .ok (.iload 4, 2) := by decide +kernel
theorem dX2_runOn_65 : decode cX2_runOn 65 = .ok (.ifCond .ge 11, 3) := by decide +kernel
theorem dX2_runOn_68 : decode cX2_runOn 68 = .ok (.aload_n 0, 1) := by decide +kernel
theorem dX2_runOn_69 : decode cX2_runOn 69 = .ok (.iconst 2, 1) := by decide +kernel
theorem dX2_runOn_70 : decode cX2_runOn 70 = .ok (.iload 4, 2) := by decide +kernel
theorem dX2_runOn_72 : decode cX2_runOn 72 = .ok (.invokevirtual 43, 3) := by decide +kernel
theorem dX2_runOn_75 : decode cX2_runOn 75 = .ok (.ireturn, 1) := by decide +kernel
theorem dX2_runOn_76 : decode cX2_runOn 76 = .ok (.iinc 2 1, 3) := by decide +kernel
theorem dX2_runOn_79 : decode cX2_runOn 79 = .ok (.goto (-67), 3) := by decide +kernel
theorem dX2_runOn_82 : decode cX2_runOn 82 = .ok (.iload_n 2, 1) := by decide +kernel
theorem dX2_runOn_83 : decode cX2_runOn 83 = .ok (.ireturn, 1) := by decide +kernel
theorem dX2_tellFault_0 : decode cX2_tellFault 0 = .ok (.aload_n 0, 1) := by decide +kernel
theorem dX2_tellFault_1 : decode cX2_tellFault 1 = .ok (.getfield 29, 3) := by decide +kernel
theorem dX2_tellFault_4 : decode cX2_tellFault 4 = .ok (.ifCond .ne 6, 3) := by decide +kernel
theorem dX2_tellFault_7 : decode cX2_tellFault 7 = .ok (.bipush (-4), 2) := by decide +kernel
theorem dX2_tellFault_9 : decode cX2_tellFault 9 = .ok (.ireturn, 1) := by decide +kernel
theorem dX2_tellFault_10 : decode cX2_tellFault 10 = .ok (.iload_n 1, 1) := by decide +kernel
theorem dX2_tellFault_11 : decode cX2_tellFault 11 = .ok (.lookupswitch 35 #[(0, 25), (1, 30)], 25) := by decide +kernel
theorem dX2_tellFault_36 : decode cX2_tellFault 36 = .ok (.aload_n 0, 1) := by decide +kernel
theorem dX2_tellFault_37 : decode cX2_tellFault 37 = .ok (.getfield 26, 3) := by decide +kernel
theorem dX2_tellFault_40 : decode cX2_tellFault 40 = .ok (.ireturn, 1) := by decide +kernel
theorem dX2_tellFault_41 : decode cX2_tellFault 41 = .ok (.aload_n 0, 1) := by decide +kernel
theorem dX2_tellFault_42 : decode cX2_tellFault 42 = .ok (.getfield 29, 3) := by decide +kernel
theorem dX2_tellFault_45 : decode cX2_tellFault 45 = .ok (.ireturn, 1) := by decide +kernel
theorem dX2_tellFault_46 : decode cX2_tellFault 46 = .ok (.aload_n 0, 1) := by decide +kernel
theorem dX2_tellFault_47 : decode cX2_tellFault 47 = .ok (.getfield 32, 3) := by decide +kernel
theorem dX2_tellFault_50 : decode cX2_tellFault 50 = .ok (.ireturn, 1) := by decide +kernel
theorem dX2_fail_0 : decode cX2_fail 0 = .ok (.aload_n 0, 1) := by decide +kernel
theorem dX2_fail_1 : decode cX2_fail 1 = .ok (.iload_n 1, 1) := by decide +kernel
theorem dX2_fail_2 : decode cX2_fail 2 = .ok (.putfield 29, 3) := by decide +kernel
theorem dX2_fail_5 : decode cX2_fail 5 = .ok (.aload_n 0, 1) := by decide +kernel
theorem dX2_fail_6 : decode cX2_fail 6 = .ok (.iload_n 2, 1) := by decide +kernel
theorem dX2_fail_7 : decode cX2_fail 7 = .ok (.putfield 32, 3) := by decide +kernel
theorem dX2_fail_10 : decode cX2_fail 10 = .ok (.iconst (-1), 1) := by decide +kernel
theorem dX2_fail_11 : decode cX2_fail 11 = .ok (.ireturn, 1) := by decide +kernel
theorem dX2_readCommand_0 : decode cX2_readCommand 0 = .ok (.aload_n 0, 1) := by decide +kernel
theorem dX2_readCommand_1 : decode cX2_readCommand 1 = .ok (.invokevirtual 51, 3) := by decide +kernel
theorem dX2_readCommand_4 : decode cX2_readCommand 4 = .ok (.istore_n 1, 1) := by decide +kernel
theorem dX2_readCommand_5 : decode cX2_readCommand 5 = .ok (.iload_n 1, 1) := by decide +kernel
theorem dX2_readCommand_6 : decode cX2_readCommand 6 = .ok (.invokestatic 54, 3) := by decide +kernel
theorem dX2_readCommand_9 : decode cX2_readCommand 9 = .ok (.istore_n 2, 1) := by decide +kernel
theorem dX2_readCommand_10 : decode cX2_readCommand 10 = .ok (.iconst 0, 1) := by decide +kernel
theorem dX2_readCommand_11 : decode cX2_readCommand 11 = .ok (.istore_n 3, 1) := by decide +kernel
theorem dX2_readCommand_12 : decode cX2_readCommand 12 = .ok (.iload_n 3, 1) := by decide +kernel
theorem dX2_readCommand_13 : decode cX2_readCommand 13 = .ok (.iload_n 2, 1) := by decide +kernel
theorem dX2_readCommand_14 : decode cX2_readCommand 14 = .ok (.if_icmp .ge 28, 3) := by decide +kernel
theorem dX2_readCommand_17 : decode cX2_readCommand 17 = .ok (.aload_n 0, 1) := by decide +kernel
theorem dX2_readCommand_18 : decode cX2_readCommand 18 = .ok (.bipush 32, 2) := by decide +kernel
theorem dX2_readCommand_20 : decode cX2_readCommand 20 = .ok (.invokevirtual 58, 3) := by decide +kernel
theorem dX2_readCommand_23 : decode cX2_readCommand 23 = .ok (.ifCond .eq 11, 3) := by decide +kernel
theorem dX2_readCommand_26 : decode cX2_readCommand 26 = .ok (.aload_n 0, 1) := by decide +kernel
theorem dX2_readCommand_27 : decode cX2_readCommand 27 = .ok (.iload_n 3, 1) := by decide +kernel
theorem dX2_readCommand_28 : decode cX2_readCommand 28 = .ok (.invokevirtual 62, 3) := by decide +kernel
theorem dX2_readCommand_31 : decode cX2_readCommand 31 = .ok (.ifCond .ne 5, 3) := by decide +kernel
theorem dX2_readCommand_34 : decode cX2_readCommand 34 = .ok (.iconst (-1), 1) := by decide +kernel
theorem dX2_readCommand_35 : decode cX2_readCommand 35 = .ok (.ireturn, 1) := by decide +kernel
theorem dX2_readCommand_36 : decode cX2_readCommand 36 = .ok (.iinc 3 1, 3) := by decide +kernel
theorem dX2_readCommand_39 : decode cX2_readCommand 39 = .ok (.goto (-27), 3) := by decide +kernel
theorem dX2_readCommand_42 : decode cX2_readCommand 42 = .ok (.aload_n 0, 1) := by decide +kernel
theorem dX2_readCommand_43 : decode cX2_readCommand 43 = .ok (.bipush 59, 2) := by decide +kernel
theorem dX2_readCommand_45 : decode cX2_readCommand 45 = .ok (.invokevirtual 58, 3) := by decide +kernel
theorem dX2_readCommand_48 : decode cX2_readCommand 48 = .ok (.ifCond .eq 7, 3) := by decide +kernel
theorem dX2_readCommand_51 : decode cX2_readCommand 51 = .ok (.iload_n 1, 1) := by decide +kernel
theorem dX2_readCommand_52 : decode cX2_readCommand 52 = .ok (.goto 4, 3) := by decide +kernel
theorem dX2_readCommand_55 : decode cX2_readCommand 55 = .ok (.iconst (-1), 1) := by decide +kernel
theorem dX2_readCommand_56 : decode cX2_readCommand 56 = .ok (.ireturn, 1) := by decide +kernel
theorem dX2_readKind_0 : decode cX2_readKind 0 = .ok (.iconst 0, 1) := by decide +kernel
theorem dX2_readKind_1 : decode cX2_readKind 1 = .ok (.istore_n 1, 1) := by decide +kernel
theorem dX2_readKind_2 : decode cX2_readKind 2 = .ok (.iload_n 1, 1) := by decide +kernel
theorem dX2_readKind_3 : decode cX2_readKind 3 = .ok (.bipush 9, 2) := by decide +kernel
theorem dX2_readKind_5 : decode cX2_readKind 5 = .ok (.if_icmp .ge 37, 3) := by decide +kernel
theorem dX2_readKind_8 : decode cX2_readKind 8 = .ok (.iload_n 1, 1) := by decide +kernel
theorem dX2_readKind_9 : decode cX2_readKind 9 = .ok (.invokestatic 66, 3) := by decide +kernel
theorem dX2_readKind_12 : decode cX2_readKind 12 = .ok (.astore_n 2, 1) := by decide +kernel
theorem dX2_readKind_13 : decode cX2_readKind 13 = .ok (.aload_n 0, 1) := by decide +kernel
theorem dX2_readKind_14 : decode cX2_readKind 14 = .ok (.aload_n 2, 1) := by decide +kernel
theorem dX2_readKind_15 : decode cX2_readKind 15 = .ok (.invokevirtual 70, 3) := by decide +kernel
theorem dX2_readKind_18 : decode cX2_readKind 18 = .ok (.ifCond .eq 18, 3) := by decide +kernel
theorem dX2_readKind_21 : decode cX2_readKind 21 = .ok (.aload_n 0, 1) := by decide +kernel
theorem dX2_readKind_22 : decode cX2_readKind 22 = .ok (.dup, 1) := by decide +kernel
theorem dX2_readKind_23 : decode cX2_readKind 23 = .ok (.getfield 23, 3) := by decide +kernel
theorem dX2_readKind_26 : decode cX2_readKind 26 = .ok (.aload_n 2, 1) := by decide +kernel
theorem dX2_readKind_27 : decode cX2_readKind 27 = .ok (.invokevirtual 74, 3) := by decide +kernel
theorem dX2_readKind_30 : decode cX2_readKind 30 = .ok (.iadd, 1) := by decide +kernel
theorem dX2_readKind_31 : decode cX2_readKind 31 = .ok (.putfield 23, 3) := by decide +kernel
theorem dX2_readKind_34 : decode cX2_readKind 34 = .ok (.iload_n 1, 1) := by decide +kernel
theorem dX2_readKind_35 : decode cX2_readKind 35 = .ok (.ireturn, 1) := by decide +kernel
theorem dX2_readKind_36 : decode cX2_readKind 36 = .ok (.iinc 1 1, 3) := by decide +kernel
theorem dX2_readKind_39 : decode cX2_readKind 39 = .ok (.goto (-37), 3) := by decide +kernel
theorem dX2_readKind_42 : decode cX2_readKind 42 = .ok (.iconst (-1), 1) := by decide +kernel
theorem dX2_readKind_43 : decode cX2_readKind 43 = .ok (.ireturn, 1) := by decide +kernel
theorem dX2_standsNext_0 : decode cX2_standsNext 0 = .ok (.aload_n 1, 1) := by decide +kernel
theorem dX2_standsNext_1 : decode cX2_standsNext 1 = .ok (.invokevirtual 74, 3) := by decide +kernel
theorem dX2_standsNext_4 : decode cX2_standsNext 4 = .ok (.aload_n 0, 1) := by decide +kernel
theorem dX2_standsNext_5 : decode cX2_standsNext 5 = .ok (.getfield 15, 3) := by decide +kernel
theorem dX2_standsNext_8 : decode cX2_standsNext 8 = .ok (.aload_n 0, 1) := by decide +kernel
theorem dX2_standsNext_9 : decode cX2_standsNext 9 = .ok (.getfield 23, 3) := by decide +kernel
theorem dX2_standsNext_12 : decode cX2_standsNext 12 = .ok (.isub, 1) := by decide +kernel
theorem dX2_standsNext_13 : decode cX2_standsNext 13 = .ok (.if_icmp .le 5, 3) := by decide +kernel
theorem dX2_standsNext_16 : decode cX2_standsNext 16 = .ok (.iconst 0, 1) := by decide +kernel
theorem dX2_standsNext_17 : decode cX2_standsNext 17 = .ok (.ireturn, 1) := by decide +kernel
theorem dX2_standsNext_18 : decode cX2_standsNext 18 = .ok (.iconst 0, 1) := by decide +kernel
theorem dX2_standsNext_19 : decode cX2_standsNext 19 = .ok (.istore_n 2, 1) := by decide +kernel
theorem dX2_standsNext_20 : decode cX2_standsNext 20 = .ok (.iload_n 2, 1) := by decide +kernel
theorem dX2_standsNext_21 : decode cX2_standsNext 21 = .ok (.aload_n 1, 1) := by decide +kernel
theorem dX2_standsNext_22 : decode cX2_standsNext 22 = .ok (.invokevirtual 74, 3) := by decide +kernel
theorem dX2_standsNext_25 : decode cX2_standsNext 25 = .ok (.if_icmp .ge 29, 3) := by decide +kernel
theorem dX2_standsNext_28 : decode cX2_standsNext 28 = .ok (.aload_n 0, 1) := by decide +kernel
theorem dX2_standsNext_29 : decode cX2_standsNext 29 = .ok (.aload_n 0, 1) := by decide +kernel
theorem dX2_standsNext_30 : decode cX2_standsNext 30 = .ok (.getfield 23, 3) := by decide +kernel
theorem dX2_standsNext_33 : decode cX2_standsNext 33 = .ok (.iload_n 2, 1) := by decide +kernel
theorem dX2_standsNext_34 : decode cX2_standsNext 34 = .ok (.iadd, 1) := by decide +kernel
theorem dX2_standsNext_35 : decode cX2_standsNext 35 = .ok (.invokevirtual 78, 3) := by decide +kernel
theorem dX2_standsNext_38 : decode cX2_standsNext 38 = .ok (.aload_n 1, 1) := by decide +kernel
theorem dX2_standsNext_39 : decode cX2_standsNext 39 = .ok (.iload_n 2, 1) := by decide +kernel
theorem dX2_standsNext_40 : decode cX2_standsNext 40 = .ok (.invokevirtual 82, 3) := by decide +kernel
theorem dX2_standsNext_43 : decode cX2_standsNext 43 = .ok (.if_icmp .eq 5, 3) := by decide +kernel
theorem dX2_standsNext_46 : decode cX2_standsNext 46 = .ok (.iconst 0, 1) := by decide +kernel
theorem dX2_standsNext_47 : decode cX2_standsNext 47 = .ok (.ireturn, 1) := by decide +kernel
theorem dX2_standsNext_48 : decode cX2_standsNext 48 = .ok (.iinc 2 1, 3) := by decide +kernel
theorem dX2_standsNext_51 : decode cX2_standsNext 51 = .ok (.goto (-31), 3) := by decide +kernel
theorem dX2_standsNext_54 : decode cX2_standsNext 54 = .ok (.iconst 1, 1) := by decide +kernel
theorem dX2_standsNext_55 : decode cX2_standsNext 55 = .ok (.ireturn, 1) := by decide +kernel
theorem dX2_readSign_0 : decode cX2_readSign 0 = .ok (.aload_n 0, 1) := by decide +kernel
theorem dX2_readSign_1 : decode cX2_readSign 1 = .ok (.aload_n 0, 1) := by decide +kernel
theorem dX2_readSign_2 : decode cX2_readSign 2 = .ok (.getfield 23, 3) := by decide +kernel
theorem dX2_readSign_5 : decode cX2_readSign 5 = .ok (.invokevirtual 78, 3) := by decide +kernel
theorem dX2_readSign_8 : decode cX2_readSign 8 = .ok (.iload_n 1, 1) := by decide +kernel
theorem dX2_readSign_9 : decode cX2_readSign 9 = .ok (.if_icmp .eq 5, 3) := by decide +kernel
theorem dX2_readSign_12 : decode cX2_readSign 12 = .ok (.iconst 0, 1) := by decide +kernel
theorem dX2_readSign_13 : decode cX2_readSign 13 = .ok (.ireturn, 1) := by decide +kernel
theorem dX2_readSign_14 : decode cX2_readSign 14 = .ok (.aload_n 0, 1) := by decide +kernel
theorem dX2_readSign_15 : decode cX2_readSign 15 = .ok (.dup, 1) := by decide +kernel
theorem dX2_readSign_16 : decode cX2_readSign 16 = .ok (.getfield 23, 3) := by decide +kernel
theorem dX2_readSign_19 : decode cX2_readSign 19 = .ok (.iconst 1, 1) := by decide +kernel
theorem dX2_readSign_20 : decode cX2_readSign 20 = .ok (.iadd, 1) := by decide +kernel
theorem dX2_readSign_21 : decode cX2_readSign 21 = .ok (.putfield 23, 3) := by decide +kernel
theorem dX2_readSign_24 : decode cX2_readSign 24 = .ok (.iconst 1, 1) := by decide +kernel
theorem dX2_readSign_25 : decode cX2_readSign 25 = .ok (.ireturn, 1) := by decide +kernel
theorem dX2_readNumber_0 : decode cX2_readNumber 0 = .ok (.iconst 0, 1) := by decide +kernel
theorem dX2_readNumber_1 : decode cX2_readNumber 1 = .ok (.istore_n 2, 1) := by decide +kernel
theorem dX2_readNumber_2 : decode cX2_readNumber 2 = .ok (.iconst 0, 1) := by decide +kernel
theorem dX2_readNumber_3 : decode cX2_readNumber 3 = .ok (.istore_n 3, 1) := by decide +kernel
theorem dX2_readNumber_4 : decode cX2_readNumber 4 = .ok (.iload_n 3, 1) := by decide +kernel
theorem dX2_readNumber_5 : decode cX2_readNumber 5 = .ok (.iconst 4, 1) := by decide +kernel
theorem dX2_readNumber_6 : decode cX2_readNumber 6 = .ok (.if_icmp .ge 54, 3) := by decide +kernel
theorem dX2_readNumber_9 : decode cX2_readNumber 9 = .ok (.aload_n 0, 1) := by decide +kernel
theorem dX2_readNumber_10 : decode cX2_readNumber 10 = .ok (.aload_n 0, 1) := by decide +kernel
theorem dX2_readNumber_11 : decode cX2_readNumber 11 = .ok (.getfield 23, 3) := by decide +kernel
theorem dX2_readNumber_14 : decode cX2_readNumber 14 = .ok (.invokevirtual 78, 3) := by decide +kernel
theorem dX2_readNumber_17 : decode cX2_readNumber 17 = .ok (.bipush 48, 2) := by decide +kernel
theorem dX2_readNumber_19 : decode cX2_readNumber 19 = .ok (.bipush 57, 2) := by decide +kernel
theorem dX2_readNumber_21 : decode cX2_readNumber 21 = .ok (.invokestatic 35, 3) := by decide +kernel
theorem dX2_readNumber_24 : decode cX2_readNumber 24 = .ok (.ifCond .eq 36, 3) := by decide +kernel
theorem dX2_readNumber_27 : decode cX2_readNumber 27 = .ok (.iload_n 2, 1) := by decide +kernel
theorem dX2_readNumber_28 : decode cX2_readNumber 28 = .ok (.bipush 10, 2) := by decide +kernel
theorem dX2_readNumber_30 : decode cX2_readNumber 30 = .ok (.imul, 1) := by decide +kernel
theorem dX2_readNumber_31 : decode cX2_readNumber 31 = .ok (.aload_n 0, 1) := by decide +kernel
theorem dX2_readNumber_32 : decode cX2_readNumber 32 = .ok (.aload_n 0, 1) := by decide +kernel
theorem dX2_readNumber_33 : decode cX2_readNumber 33 = .ok (.getfield 23, 3) := by decide +kernel
theorem dX2_readNumber_36 : decode cX2_readNumber 36 = .ok (.invokevirtual 78, 3) := by decide +kernel
theorem dX2_readNumber_39 : decode cX2_readNumber 39 = .ok (.iadd, 1) := by decide +kernel
theorem dX2_readNumber_40 : decode cX2_readNumber 40 = .ok (.bipush 48, 2) := by decide +kernel
theorem dX2_readNumber_42 : decode cX2_readNumber 42 = .ok (.isub, 1) := by decide +kernel
theorem dX2_readNumber_43 : decode cX2_readNumber 43 = .ok (.istore_n 2, 1) := by decide +kernel
theorem dX2_readNumber_44 : decode cX2_readNumber 44 = .ok (.iinc 3 1, 3) := by decide +kernel
theorem dX2_readNumber_47 : decode cX2_readNumber 47 = .ok (.aload_n 0, 1) := by decide +kernel
theorem dX2_readNumber_48 : decode cX2_readNumber 48 = .ok (.dup, 1) := by decide +kernel
theorem dX2_readNumber_49 : decode cX2_readNumber 49 = .ok (.getfield 23, 3) := by decide +kernel
theorem dX2_readNumber_52 : decode cX2_readNumber 52 = .ok (.iconst 1, 1) := by decide +kernel
theorem dX2_readNumber_53 : decode cX2_readNumber 53 = .ok (.iadd, 1) := by decide +kernel
theorem dX2_readNumber_54 : decode cX2_readNumber 54 = .ok (.putfield 23, 3) := by decide +kernel
theorem dX2_readNumber_57 : decode cX2_readNumber 57 = .ok (.goto (-53), 3) := by decide +kernel
theorem dX2_readNumber_60 : decode cX2_readNumber 60 = .ok (.iload_n 3, 1) := by decide +kernel
theorem dX2_readNumber_61 : decode cX2_readNumber 61 = .ok (.ifCond .eq 12, 3) := by decide +kernel
theorem dX2_readNumber_64 : decode cX2_readNumber 64 = .ok (.iload_n 1, 1) := by decide +kernel
theorem dX2_readNumber_65 : decode cX2_readNumber 65 = .ok (.iconst 0, 1) := by decide +kernel
theorem dX2_readNumber_66 : decode cX2_readNumber 66 = .ok (.iconst 3, 1) := by decide +kernel
theorem dX2_readNumber_67 : decode cX2_readNumber 67 = .ok (.invokestatic 35, 3) := by decide +kernel
theorem dX2_readNumber_70 : decode cX2_readNumber 70 = .ok (.ifCond .ne 5, 3) := by decide +kernel
theorem dX2_readNumber_73 : decode cX2_readNumber 73 = .ok (.iconst 0, 1) := by decide +kernel
theorem dX2_readNumber_74 : decode cX2_readNumber 74 = .ok (.ireturn, 1) := by decide +kernel
theorem dX2_readNumber_75 : decode cX2_readNumber 75 = .ok (.aload_n 0, 1) := by decide +kernel
theorem dX2_readNumber_76 : decode cX2_readNumber 76 = .ok (.getfield 19, 3) := by decide +kernel
theorem dX2_readNumber_79 : decode cX2_readNumber 79 = .ok (.iload_n 1, 1) := by decide +kernel
theorem dX2_readNumber_80 : decode cX2_readNumber 80 = .ok (.iload_n 2, 1) := by decide +kernel
theorem dX2_readNumber_81 : decode cX2_readNumber 81 = .ok (.iastore, 1) := by decide +kernel
theorem dX2_readNumber_82 : decode cX2_readNumber 82 = .ok (.iconst 1, 1) := by decide +kernel
theorem dX2_readNumber_83 : decode cX2_readNumber 83 = .ok (.ireturn, 1) := by decide +kernel
theorem dX2_signAt_0 : decode cX2_signAt 0 = .ok (.iload_n 1, 1) := by decide +kernel
theorem dX2_signAt_1 : decode cX2_signAt 1 = .ok (.iconst 0, 1) := by decide +kernel
theorem dX2_signAt_2 : decode cX2_signAt 2 = .ok (.aload_n 0, 1) := by decide +kernel
theorem dX2_signAt_3 : decode cX2_signAt 3 = .ok (.getfield 15, 3) := by decide +kernel
theorem dX2_signAt_6 : decode cX2_signAt 6 = .ok (.bipush 80, 2) := by decide +kernel
theorem dX2_signAt_8 : decode cX2_signAt 8 = .ok (.invokestatic 85, 3) := by decide +kernel
theorem dX2_signAt_11 : decode cX2_signAt 11 = .ok (.iconst 1, 1) := by decide +kernel
theorem dX2_signAt_12 : decode cX2_signAt 12 = .ok (.isub, 1) := by decide +kernel
theorem dX2_signAt_13 : decode cX2_signAt 13 = .ok (.invokestatic 35, 3) := by decide +kernel
theorem dX2_signAt_16 : decode cX2_signAt 16 = .ok (.ifCond .eq 12, 3) := by decide +kernel
theorem dX2_signAt_19 : decode cX2_signAt 19 = .ok (.aload_n 0, 1) := by decide +kernel
theorem dX2_signAt_20 : decode cX2_signAt 20 = .ok (.getfield 11, 3) := by decide +kernel
theorem dX2_signAt_23 : decode cX2_signAt 23 = .ok (.iload_n 1, 1) := by decide +kernel
theorem dX2_signAt_24 : decode cX2_signAt 24 = .ok (.caload, 1) := by decide +kernel
theorem dX2_signAt_25 : decode cX2_signAt 25 = .ok (.goto 4, 3) := by decide +kernel
theorem dX2_signAt_28 : decode cX2_signAt 28 = .ok (.iconst 0, 1) := by decide +kernel
theorem dX2_signAt_29 : decode cX2_signAt 29 = .ok (.ireturn, 1) := by decide +kernel
theorem dX2_perform_0 : decode cX2_perform 0 = .ok (.iload_n 1, 1) := by decide +kernel
theorem dX2_perform_1 : decode cX2_perform 1 = .ok (.tableswitch 202 0 8 #[51, 74, 103, 114, 120, 137, 160, 177, 188], 51) := by decide +kernel
theorem dX2_perform_52 : decode cX2_perform 52 = .ok (.aload_n 2, 1) := by decide +kernel
theorem dX2_perform_53 : decode cX2_perform 53 = .ok (.aload_n 0, 1) := by decide +kernel
theorem dX2_perform_54 : decode cX2_perform 54 = .ok (.getfield 19, 3) := by decide +kernel
theorem dX2_perform_57 : decode cX2_perform 57 = .ok (.iconst 0, 1) := by decide +kernel
theorem dX2_perform_58 : decode cX2_perform 58 = .ok (.iaload, 1) := by decide +kernel
theorem dX2_perform_59 : decode cX2_perform 59 = .ok (.aload_n 0, 1) := by decide +kernel
theorem dX2_perform_60 : decode cX2_perform 60 = .ok (.getfield 19, 3) := by decide +kernel
theorem dX2_perform_63 : decode cX2_perform 63 = .ok (.iconst 1, 1) := by decide +kernel
theorem dX2_perform_64 : decode cX2_perform 64 = .ok (.iaload, 1) := by decide +kernel
theorem dX2_perform_65 : decode cX2_perform 65 = .ok (.aload_n 0, 1) := by decide +kernel
theorem dX2_perform_66 : decode cX2_perform 66 = .ok (.getfield 19, 3) := by decide +kernel
theorem dX2_perform_69 : decode cX2_perform 69 = .ok (.iconst 2, 1) := by decide +kernel
theorem dX2_perform_70 : decode cX2_perform 70 = .ok (.iaload, 1) := by decide +kernel
theorem dX2_perform_71 : decode cX2_perform 71 = .ok (.invokevirtual 90, 3) := by decide +kernel
theorem dX2_perform_74 : decode cX2_perform 74 = .ok (.ireturn, 1) := by decide +kernel
theorem dX2_perform_75 : decode cX2_perform 75 = .ok (.aload_n 2, 1) := by decide +kernel
theorem dX2_perform_76 : decode cX2_perform 76 = .ok (.aload_n 0, 1) := by decide +kernel
theorem dX2_perform_77 : decode cX2_perform 77 = .ok (.getfield 19, 3) := by decide +kernel
theorem dX2_perform_80 : decode cX2_perform 80 = .ok (.iconst 0, 1) := by decide +kernel
theorem dX2_perform_81 : decode cX2_perform 81 = .ok (.iaload, 1) := by decide +kernel
theorem dX2_perform_82 : decode cX2_perform 82 = .ok (.aload_n 0, 1) := by decide +kernel
theorem dX2_perform_83 : decode cX2_perform 83 = .ok (.getfield 19, 3) := by decide +kernel
theorem dX2_perform_86 : decode cX2_perform 86 = .ok (.iconst 1, 1) := by decide +kernel
theorem dX2_perform_87 : decode cX2_perform 87 = .ok (.iaload, 1) := by decide +kernel
theorem dX2_perform_88 : decode cX2_perform 88 = .ok (.aload_n 0, 1) := by decide +kernel
theorem dX2_perform_89 : decode cX2_perform 89 = .ok (.getfield 19, 3) := by decide +kernel
theorem dX2_perform_92 : decode cX2_perform 92 = .ok (.iconst 2, 1) := by decide +kernel
theorem dX2_perform_93 : decode cX2_perform 93 = .ok (.iaload, 1) := by decide +kernel
theorem dX2_perform_94 : decode cX2_perform 94 = .ok (.aload_n 0, 1) := by decide +kernel
theorem dX2_perform_95 : decode cX2_perform 95 = .ok (.getfield 19, 3) := by decide +kernel
theorem dX2_perform_98 : decode cX2_perform 98 = .ok (.iconst 3, 1) := by decide +kernel
theorem dX2_perform_99 : decode cX2_perform 99 = .ok (.iaload, 1) := by decide +kernel
theorem dX2_perform_100 : decode cX2_perform 100 = .ok (.invokevirtual 96, 3) := by decide +kernel
theorem dX2_perform_103 : decode cX2_perform 103 = .ok (.ireturn, 1) := by decide +kernel
theorem dX2_perform_104 : decode cX2_perform 104 = .ok (.aload_n 2, 1) := by decide +kernel
theorem dX2_perform_105 : decode cX2_perform 105 = .ok (.aload_n 0, 1) := by decide +kernel
theorem dX2_perform_106 : decode cX2_perform 106 = .ok (.getfield 19, 3) := by decide +kernel
theorem dX2_perform_109 : decode cX2_perform 109 = .ok (.iconst 0, 1) := by decide +kernel
theorem dX2_perform_110 : decode cX2_perform 110 = .ok (.iaload, 1) := by decide +kernel
theorem dX2_perform_111 : decode cX2_perform 111 = .ok (.invokevirtual 100, 3) := by decide +kernel
theorem dX2_perform_114 : decode cX2_perform 114 = .ok (.ireturn, 1) := by decide +kernel
theorem dX2_perform_115 : decode cX2_perform 115 = .ok (.aload_n 2, 1) := by decide +kernel
theorem dX2_perform_116 : decode cX2_perform 116 = .ok (.iconst (-1), 1) := by decide +kernel
theorem dX2_perform_117 : decode cX2_perform 117 = .ok (.invokevirtual 103, 3) := by decide +kernel
theorem dX2_perform_120 : decode cX2_perform 120 = .ok (.ireturn, 1) := by decide +kernel
theorem dX2_perform_121 : decode cX2_perform 121 = .ok (.aload_n 2, 1) := by decide +kernel
theorem dX2_perform_122 : decode cX2_perform 122 = .ok (.aload_n 0, 1) := by decide +kernel
theorem dX2_perform_123 : decode cX2_perform 123 = .ok (.getfield 19, 3) := by decide +kernel
theorem dX2_perform_126 : decode cX2_perform 126 = .ok (.iconst 0, 1) := by decide +kernel
theorem dX2_perform_127 : decode cX2_perform 127 = .ok (.iaload, 1) := by decide +kernel
theorem dX2_perform_128 : decode cX2_perform 128 = .ok (.aload_n 0, 1) := by decide +kernel
theorem dX2_perform_129 : decode cX2_perform 129 = .ok (.getfield 19, 3) := by decide +kernel
theorem dX2_perform_132 : decode cX2_perform 132 = .ok (.iconst 1, 1) := by decide +kernel
theorem dX2_perform_133 : decode cX2_perform 133 = .ok (.iaload, 1) := by decide +kernel
theorem dX2_perform_134 : decode cX2_perform 134 = .ok (.invokevirtual 106, 3) := by decide +kernel
theorem dX2_perform_137 : decode cX2_perform 137 = .ok (.ireturn, 1) := by decide +kernel
theorem dX2_perform_138 : decode cX2_perform 138 = .ok (.aload_n 2, 1) := by decide +kernel
theorem dX2_perform_139 : decode cX2_perform 139 = .ok (.aload_n 0, 1) := by decide +kernel
theorem dX2_perform_140 : decode cX2_perform 140 = .ok (.getfield 19, 3) := by decide +kernel
theorem dX2_perform_143 : decode cX2_perform 143 = .ok (.iconst 0, 1) := by decide +kernel
theorem dX2_perform_144 : decode cX2_perform 144 = .ok (.iaload, 1) := by decide +kernel
theorem dX2_perform_145 : decode cX2_perform 145 = .ok (.aload_n 0, 1) := by decide +kernel
theorem dX2_perform_146 : decode cX2_perform 146 = .ok (.getfield 19, 3) := by decide +kernel
theorem dX2_perform_149 : decode cX2_perform 149 = .ok (.iconst 1, 1) := by decide +kernel
theorem dX2_perform_150 : decode cX2_perform 150 = .ok (.iaload, 1) := by decide +kernel
theorem dX2_perform_151 : decode cX2_perform 151 = .ok (.aload_n 0, 1) := by decide +kernel
theorem dX2_perform_152 : decode cX2_perform 152 = .ok (.getfield 19, 3) := by decide +kernel
theorem dX2_perform_155 : decode cX2_perform 155 = .ok (.iconst 2, 1) := by decide +kernel
theorem dX2_perform_156 : decode cX2_perform 156 = .ok (.iaload, 1) := by decide +kernel
theorem dX2_perform_157 : decode cX2_perform 157 = .ok (.invokevirtual 109, 3) := by decide +kernel
theorem dX2_perform_160 : decode cX2_perform 160 = .ok (.ireturn, 1) := by decide +kernel
theorem dX2_perform_161 : decode cX2_perform 161 = .ok (.aload_n 2, 1) := by decide +kernel
theorem dX2_perform_162 : decode cX2_perform 162 = .ok (.aload_n 0, 1) := by decide +kernel
theorem dX2_perform_163 : decode cX2_perform 163 = .ok (.getfield 19, 3) := by decide +kernel
theorem dX2_perform_166 : decode cX2_perform 166 = .ok (.iconst 0, 1) := by decide +kernel
theorem dX2_perform_167 : decode cX2_perform 167 = .ok (.iaload, 1) := by decide +kernel
theorem dX2_perform_168 : decode cX2_perform 168 = .ok (.aload_n 0, 1) := by decide +kernel
theorem dX2_perform_169 : decode cX2_perform 169 = .ok (.getfield 19, 3) := by decide +kernel
theorem dX2_perform_172 : decode cX2_perform 172 = .ok (.iconst 1, 1) := by decide +kernel
theorem dX2_perform_173 : decode cX2_perform 173 = .ok (.iaload, 1) := by decide +kernel
theorem dX2_perform_174 : decode cX2_perform 174 = .ok (.invokevirtual 112, 3) := by decide +kernel
theorem dX2_perform_177 : decode cX2_perform 177 = .ok (.ireturn, 1) := by decide +kernel
theorem dX2_perform_178 : decode cX2_perform 178 = .ok (.aload_n 2, 1) := by decide +kernel
theorem dX2_perform_179 : decode cX2_perform 179 = .ok (.aload_n 0, 1) := by decide +kernel
theorem dX2_perform_180 : decode cX2_perform 180 = .ok (.getfield 19, 3) := by decide +kernel
theorem dX2_perform_183 : decode cX2_perform 183 = .ok (.iconst 0, 1) := by decide +kernel
theorem dX2_perform_184 : decode cX2_perform 184 = .ok (.iaload, 1) := by decide +kernel
theorem dX2_perform_185 : decode cX2_perform 185 = .ok (.invokevirtual 115, 3) := by decide +kernel
theorem dX2_perform_188 : decode cX2_perform 188 = .ok (.ireturn, 1) := by decide +kernel
theorem dX2_perform_189 : decode cX2_perform 189 = .ok (.aload_n 2, 1) := by decide +kernel
theorem dX2_perform_190 : decode cX2_perform 190 = .ok (.aload_n 0, 1) := by decide +kernel
theorem dX2_perform_191 : decode cX2_perform 191 = .ok (.getfield 19, 3) := by decide +kernel
theorem dX2_perform_194 : decode cX2_perform 194 = .ok (.iconst 0, 1) := by decide +kernel
theorem dX2_perform_195 : decode cX2_perform 195 = .ok (.iaload, 1) := by decide +kernel
theorem dX2_perform_196 : decode cX2_perform 196 = .ok (.sipush 999, 3) := by decide +kernel
theorem dX2_perform_199 : decode cX2_perform 199 = .ok (.invokevirtual 118, 3) := by decide +kernel
theorem dX2_perform_202 : decode cX2_perform 202 = .ok (.ireturn, 1) := by decide +kernel
theorem dX2_perform_203 : decode cX2_perform 203 = .ok (.iconst (-1), 1) := by decide +kernel
theorem dX2_perform_204 : decode cX2_perform 204 = .ok (.ireturn, 1) := by decide +kernel
theorem dX2_wordOf_0 : decode cX2_wordOf 0 = .ok (.iload_n 0, 1) := by decide +kernel
theorem dX2_wordOf_1 : decode cX2_wordOf 1 = .ok (.tableswitch 71 0 7 #[47, 50, 53, 56, 59, 62, 65, 68], 47) := by decide +kernel
theorem dX2_wordOf_48 : decode cX2_wordOf 48 = .ok (.ldc 121, 2) := by decide +kernel
theorem dX2_wordOf_50 : decode cX2_wordOf 50 = .ok (.areturn, 1) := by decide +kernel
theorem dX2_wordOf_51 : decode cX2_wordOf 51 = .ok (.ldc 123, 2) := by decide +kernel
theorem dX2_wordOf_53 : decode cX2_wordOf 53 = .ok (.areturn, 1) := by decide +kernel
theorem dX2_wordOf_54 : decode cX2_wordOf 54 = .ok (.ldc 125, 2) := by decide +kernel
theorem dX2_wordOf_56 : decode cX2_wordOf 56 = .ok (.areturn, 1) := by decide +kernel
theorem dX2_wordOf_57 : decode cX2_wordOf 57 = .ok (.ldc 127, 2) := by decide +kernel
theorem dX2_wordOf_59 : decode cX2_wordOf 59 = .ok (.areturn, 1) := by decide +kernel
theorem dX2_wordOf_60 : decode cX2_wordOf 60 = .ok (.ldc 129, 2) := by decide +kernel
theorem dX2_wordOf_62 : decode cX2_wordOf 62 = .ok (.areturn, 1) := by decide +kernel
theorem dX2_wordOf_63 : decode cX2_wordOf 63 = .ok (.ldc 131, 2) := by decide +kernel
theorem dX2_wordOf_65 : decode cX2_wordOf 65 = .ok (.areturn, 1) := by decide +kernel
theorem dX2_wordOf_66 : decode cX2_wordOf 66 = .ok (.ldc 133, 2) := by decide +kernel
theorem dX2_wordOf_68 : decode cX2_wordOf 68 = .ok (.areturn, 1) := by decide +kernel
theorem dX2_wordOf_69 : decode cX2_wordOf 69 = .ok (.ldc 135, 2) := by decide +kernel
theorem dX2_wordOf_71 : decode cX2_wordOf 71 = .ok (.areturn, 1) := by decide +kernel
theorem dX2_wordOf_72 : decode cX2_wordOf 72 = .ok (.ldc 137, 2) := by decide +kernel
theorem dX2_wordOf_74 : decode cX2_wordOf 74 = .ok (.areturn, 1) := by decide +kernel
theorem dX2_numbersOf_0 : decode cX2_numbersOf 0 = .ok (.iload_n 0, 1) := by decide +kernel
theorem dX2_numbersOf_1 : decode cX2_numbersOf 1 = .ok (.tableswitch 59 0 8 #[53, 51, 57, 59, 55, 53, 55, 57, 57], 51) := by decide +kernel
theorem dX2_numbersOf_52 : decode cX2_numbersOf 52 = .ok (.iconst 4, 1) := by decide +kernel
theorem dX2_numbersOf_53 : decode cX2_numbersOf 53 = .ok (.ireturn, 1) := by decide +kernel
theorem dX2_numbersOf_54 : decode cX2_numbersOf 54 = .ok (.iconst 3, 1) := by decide +kernel
theorem dX2_numbersOf_55 : decode cX2_numbersOf 55 = .ok (.ireturn, 1) := by decide +kernel
theorem dX2_numbersOf_56 : decode cX2_numbersOf 56 = .ok (.iconst 2, 1) := by decide +kernel
theorem dX2_numbersOf_57 : decode cX2_numbersOf 57 = .ok (.ireturn, 1) := by decide +kernel
theorem dX2_numbersOf_58 : decode cX2_numbersOf 58 = .ok (.iconst 1, 1) := by decide +kernel
theorem dX2_numbersOf_59 : decode cX2_numbersOf 59 = .ok (.ireturn, 1) := by decide +kernel
theorem dX2_numbersOf_60 : decode cX2_numbersOf 60 = .ok (.iconst 0, 1) := by decide +kernel
theorem dX2_numbersOf_61 : decode cX2_numbersOf 61 = .ok (.ireturn, 1) := by decide +kernel
theorem dX3_init_0 : decode cX3_init 0 = .ok (.aload_n 0, 1) := by decide +kernel
theorem dX3_init_1 : decode cX3_init 1 = .ok (.invokespecial 3, 3) := by decide +kernel
theorem dX3_init_4 : decode cX3_init 4 = .ok (.aload_n 0, 1) := by decide +kernel
theorem dX3_init_5 : decode cX3_init 5 = .ok (.aload_n 1, 1) := by decide +kernel
theorem dX3_init_6 : decode cX3_init 6 = .ok (.putfield 9, 3) := by decide +kernel
theorem dX3_init_9 : decode cX3_init 9 = .ok (.aload_n 0, 1) := by decide +kernel
theorem dX3_init_10 : decode cX3_init 10 = .ok (.iload_n 2, 1) := by decide +kernel
theorem dX3_init_11 : decode cX3_init 11 = .ok (.putfield 15, 3) := by decide +kernel
theorem dX3_init_14 : decode cX3_init 14 = .ok (.aload_n 0, 1) := by decide +kernel
theorem dX3_init_15 : decode cX3_init 15 = .ok (.iload_n 3, 1) := by decide +kernel
theorem dX3_init_16 : decode cX3_init 16 = .ok (.putfield 19, 3) := by decide +kernel
theorem dX3_init_19 : decode cX3_init 19 = .ok (.aload_n 0, 1) := by decide +kernel
theorem dX3_init_20 : decode cX3_init 20 = .ok (.iload 4, 2) := by decide +kernel
theorem dX3_init_22 : decode cX3_init 22 = .ok (.putfield 22, 3) := by decide +kernel
theorem dX3_init_25 : decode cX3_init 25 = .ok (.return_, 1) := by decide +kernel
theorem dX3_size_0 : decode cX3_size 0 = .ok (.aload_n 0, 1) := by decide +kernel
theorem dX3_size_1 : decode cX3_size 1 = .ok (.getfield 9, 3) := by decide +kernel
theorem dX3_size_4 : decode cX3_size 4 = .ok (.aload_n 0, 1) := by decide +kernel
theorem dX3_size_5 : decode cX3_size 5 = .ok (.getfield 15, 3) := by decide +kernel
theorem dX3_size_8 : decode cX3_size 8 = .ok (.iaload, 1) := by decide +kernel
theorem dX3_size_9 : decode cX3_size 9 = .ok (.ireturn, 1) := by decide +kernel
theorem dX3_has_0 : decode cX3_has 0 = .ok (.iload_n 1, 1) := by decide +kernel
theorem dX3_has_1 : decode cX3_has 1 = .ok (.ifCond .lt 20, 3) := by decide +kernel
theorem dX3_has_4 : decode cX3_has 4 = .ok (.iload_n 1, 1) := by decide +kernel
theorem dX3_has_5 : decode cX3_has 5 = .ok (.aload_n 0, 1) := by decide +kernel
theorem dX3_has_6 : decode cX3_has 6 = .ok (.getfield 9, 3) := by decide +kernel
theorem dX3_has_9 : decode cX3_has 9 = .ok (.aload_n 0, 1) := by decide +kernel
theorem dX3_has_10 : decode cX3_has 10 = .ok (.getfield 15, 3) := by decide +kernel
theorem dX3_has_13 : decode cX3_has 13 = .ok (.iaload, 1) := by decide +kernel
theorem dX3_has_14 : decode cX3_has 14 = .ok (.if_icmp .ge 7, 3) := by decide +kernel
theorem dX3_has_17 : decode cX3_has 17 = .ok (.iconst 1, 1) := by decide +kernel
theorem dX3_has_18 : decode cX3_has 18 = .ok (.goto 4, 3) := by decide +kernel
theorem dX3_has_21 : decode cX3_has 21 = .ok (.iconst 0, 1) := by decide +kernel
theorem dX3_has_22 : decode cX3_has 22 = .ok (.ireturn, 1) := by decide +kernel
theorem dX3_isFull_0 : decode cX3_isFull 0 = .ok (.aload_n 0, 1) := by decide +kernel
theorem dX3_isFull_1 : decode cX3_isFull 1 = .ok (.getfield 9, 3) := by decide +kernel
theorem dX3_isFull_4 : decode cX3_isFull 4 = .ok (.aload_n 0, 1) := by decide +kernel
theorem dX3_isFull_5 : decode cX3_isFull 5 = .ok (.getfield 15, 3) := by decide +kernel
theorem dX3_isFull_8 : decode cX3_isFull 8 = .ok (.iaload, 1) := by decide +kernel
theorem dX3_isFull_9 : decode cX3_isFull 9 = .ok (.aload_n 0, 1) := by decide +kernel
theorem dX3_isFull_10 : decode cX3_isFull 10 = .ok (.getfield 19, 3) := by decide +kernel
theorem dX3_isFull_13 : decode cX3_isFull 13 = .ok (.if_icmp .lt 7, 3) := by decide +kernel
theorem dX3_isFull_16 : decode cX3_isFull 16 = .ok (.iconst 1, 1) := by decide +kernel
theorem dX3_isFull_17 : decode cX3_isFull 17 = .ok (.goto 4, 3) := by decide +kernel
theorem dX3_isFull_20 : decode cX3_isFull 20 = .ok (.iconst 0, 1) := by decide +kernel
theorem dX3_isFull_21 : decode cX3_isFull 21 = .ok (.ireturn, 1) := by decide +kernel
theorem dX3_addRow_0 : decode cX3_addRow 0 = .ok (.aload_n 0, 1) := by decide +kernel
theorem dX3_addRow_1 : decode cX3_addRow 1 = .ok (.getfield 9, 3) := by decide +kernel
theorem dX3_addRow_4 : decode cX3_addRow 4 = .ok (.aload_n 0, 1) := by decide +kernel
theorem dX3_addRow_5 : decode cX3_addRow 5 = .ok (.getfield 15, 3) := by decide +kernel
theorem dX3_addRow_8 : decode cX3_addRow 8 = .ok (.iaload, 1) := by decide +kernel
theorem dX3_addRow_9 : decode cX3_addRow 9 = .ok (.istore_n 1, 1) := by decide +kernel
theorem dX3_addRow_10 : decode cX3_addRow 10 = .ok (.iload_n 1, 1) := by decide +kernel
theorem dX3_addRow_11 : decode cX3_addRow 11 = .ok (.aload_n 0, 1) := by decide +kernel
theorem dX3_addRow_12 : decode cX3_addRow 12 = .ok (.getfield 19, 3) := by decide +kernel
theorem dX3_addRow_15 : decode cX3_addRow 15 = .ok (.if_icmp .lt 5, 3) := by decide +kernel
theorem dX3_addRow_18 : decode cX3_addRow 18 = .ok (.iconst (-1), 1) := by decide +kernel
theorem dX3_addRow_19 : decode cX3_addRow 19 = .ok (.ireturn, 1) := by decide +kernel
theorem dX3_addRow_20 : decode cX3_addRow 20 = .ok (.aload_n 0, 1) := by decide +kernel
theorem dX3_addRow_21 : decode cX3_addRow 21 = .ok (.getfield 9, 3) := by decide +kernel
theorem dX3_addRow_24 : decode cX3_addRow 24 = .ok (.aload_n 0, 1) := by decide +kernel
theorem dX3_addRow_25 : decode cX3_addRow 25 = .ok (.getfield 15, 3) := by decide +kernel
theorem dX3_addRow_28 : decode cX3_addRow 28 = .ok (.iload_n 1, 1) := by decide +kernel
theorem dX3_addRow_29 : decode cX3_addRow 29 = .ok (.iconst 1, 1) := by decide +kernel
theorem dX3_addRow_30 : decode cX3_addRow 30 = .ok (.iadd, 1) := by decide +kernel
theorem dX3_addRow_31 : decode cX3_addRow 31 = .ok (.iastore, 1) := by decide +kernel
theorem dX3_addRow_32 : decode cX3_addRow 32 = .ok (.iload_n 1, 1) := by decide +kernel
theorem dX3_addRow_33 : decode cX3_addRow 33 = .ok (.ireturn, 1) := by decide +kernel
theorem dX3_at_0 : decode cX3_at 0 = .ok (.iload_n 1, 1) := by decide +kernel
theorem dX3_at_1 : decode cX3_at 1 = .ok (.ifCond .lt 23, 3) := by decide +kernel
theorem dX3_at_4 : decode cX3_at 4 = .ok (.iload_n 1, 1) := by decide +kernel
theorem dX3_at_5 : decode cX3_at 5 = .ok (.aload_n 0, 1) := by decide +kernel
theorem dX3_at_6 : decode cX3_at 6 = .ok (.getfield 19, 3) := by decide +kernel
theorem dX3_at_9 : decode cX3_at 9 = .ok (.if_icmp .ge 15, 3) := by decide +kernel
theorem dX3_at_12 : decode cX3_at 12 = .ok (.iload_n 2, 1) := by decide +kernel
theorem dX3_at_13 : decode cX3_at 13 = .ok (.ifCond .lt 11, 3) := by decide +kernel
theorem dX3_at_16 : decode cX3_at 16 = .ok (.iload_n 2, 1) := by decide +kernel
theorem dX3_at_17 : decode cX3_at 17 = .ok (.aload_n 0, 1) := by decide +kernel
theorem dX3_at_18 : decode cX3_at 18 = .ok (.getfield 22, 3) := by decide +kernel
theorem dX3_at_21 : decode cX3_at 21 = .ok (.if_icmp .lt 5, 3) := by decide +kernel
theorem dX3_at_24 : decode cX3_at 24 = .ok (.iconst 0, 1) := by decide +kernel
theorem dX3_at_25 : decode cX3_at 25 = .ok (.ireturn, 1) := by decide +kernel
theorem dX3_at_26 : decode cX3_at 26 = .ok (.aload_n 0, 1) := by decide +kernel
theorem dX3_at_27 : decode cX3_at 27 = .ok (.getfield 9, 3) := by decide +kernel
theorem dX3_at_30 : decode cX3_at 30 = .ok (.aload_n 0, 1) := by decide +kernel
theorem dX3_at_31 : decode cX3_at 31 = .ok (.getfield 15, 3) := by decide +kernel
theorem dX3_at_34 : decode cX3_at 34 = .ok (.iconst 1, 1) := by decide +kernel
theorem dX3_at_35 : decode cX3_at 35 = .ok (.iadd, 1) := by decide +kernel
theorem dX3_at_36 : decode cX3_at 36 = .ok (.iload_n 1, 1) := by decide +kernel
theorem dX3_at_37 : decode cX3_at 37 = .ok (.aload_n 0, 1) := by decide +kernel
theorem dX3_at_38 : decode cX3_at 38 = .ok (.getfield 22, 3) := by decide +kernel
theorem dX3_at_41 : decode cX3_at 41 = .ok (.imul, 1) := by decide +kernel
theorem dX3_at_42 : decode cX3_at 42 = .ok (.iadd, 1) := by decide +kernel
theorem dX3_at_43 : decode cX3_at 43 = .ok (.iload_n 2, 1) := by decide +kernel
theorem dX3_at_44 : decode cX3_at 44 = .ok (.iadd, 1) := by decide +kernel
theorem dX3_at_45 : decode cX3_at 45 = .ok (.iaload, 1) := by decide +kernel
theorem dX3_at_46 : decode cX3_at 46 = .ok (.ireturn, 1) := by decide +kernel
theorem dX3_put_0 : decode cX3_put 0 = .ok (.iload_n 1, 1) := by decide +kernel
theorem dX3_put_1 : decode cX3_put 1 = .ok (.ifCond .lt 44, 3) := by decide +kernel
theorem dX3_put_4 : decode cX3_put 4 = .ok (.iload_n 1, 1) := by decide +kernel
theorem dX3_put_5 : decode cX3_put 5 = .ok (.aload_n 0, 1) := by decide +kernel
theorem dX3_put_6 : decode cX3_put 6 = .ok (.getfield 19, 3) := by decide +kernel
theorem dX3_put_9 : decode cX3_put 9 = .ok (.if_icmp .ge 36, 3) := by decide +kernel
theorem dX3_put_12 : decode cX3_put 12 = .ok (.iload_n 2, 1) := by decide +kernel
theorem dX3_put_13 : decode cX3_put 13 = .ok (.ifCond .lt 32, 3) := by decide +kernel
theorem dX3_put_16 : decode cX3_put 16 = .ok (.iload_n 2, 1) := by decide +kernel
theorem dX3_put_17 : decode cX3_put 17 = .ok (.aload_n 0, 1) := by decide +kernel
theorem dX3_put_18 : decode cX3_put 18 = .ok (.getfield 22, 3) := by decide +kernel
theorem dX3_put_21 : decode cX3_put 21 = .ok (.if_icmp .ge 24, 3) := by decide +kernel
theorem dX3_put_24 : decode cX3_put 24 = .ok (.aload_n 0, 1) := by decide +kernel
theorem dX3_put_25 : decode cX3_put 25 = .ok (.getfield 9, 3) := by decide +kernel
theorem dX3_put_28 : decode cX3_put 28 = .ok (.aload_n 0, 1) := by decide +kernel
theorem dX3_put_29 : decode cX3_put 29 = .ok (.getfield 15, 3) := by decide +kernel
theorem dX3_put_32 : decode cX3_put 32 = .ok (.iconst 1, 1) := by decide +kernel
theorem dX3_put_33 : decode cX3_put 33 = .ok (.iadd, 1) := by decide +kernel
theorem dX3_put_34 : decode cX3_put 34 = .ok (.iload_n 1, 1) := by decide +kernel
theorem dX3_put_35 : decode cX3_put 35 = .ok (.aload_n 0, 1) := by decide +kernel
theorem dX3_put_36 : decode cX3_put 36 = .ok (.getfield 22, 3) := by decide +kernel
theorem dX3_put_39 : decode cX3_put 39 = .ok (.imul, 1) := by decide +kernel
theorem dX3_put_40 : decode cX3_put 40 = .ok (.iadd, 1) := by decide +kernel
theorem dX3_put_41 : decode cX3_put 41 = .ok (.iload_n 2, 1) := by decide +kernel
theorem dX3_put_42 : decode cX3_put 42 = .ok (.iadd, 1) := by decide +kernel
theorem dX3_put_43 : decode cX3_put 43 = .ok (.iload_n 3, 1) := by decide +kernel
theorem dX3_put_44 : decode cX3_put 44 = .ok (.iastore, 1) := by decide +kernel
theorem dX3_put_45 : decode cX3_put 45 = .ok (.return_, 1) := by decide +kernel
theorem dX3_add_0 : decode cX3_add 0 = .ok (.iload_n 1, 1) := by decide +kernel
theorem dX3_add_1 : decode cX3_add 1 = .ok (.ifCond .lt 47, 3) := by decide +kernel
theorem dX3_add_4 : decode cX3_add 4 = .ok (.iload_n 1, 1) := by decide +kernel
theorem dX3_add_5 : decode cX3_add 5 = .ok (.aload_n 0, 1) := by decide +kernel
theorem dX3_add_6 : decode cX3_add 6 = .ok (.getfield 19, 3) := by decide +kernel
theorem dX3_add_9 : decode cX3_add 9 = .ok (.if_icmp .ge 39, 3) := by decide +kernel
theorem dX3_add_12 : decode cX3_add 12 = .ok (.iload_n 2, 1) := by decide +kernel
theorem dX3_add_13 : decode cX3_add 13 = .ok (.ifCond .lt 35, 3) := by decide +kernel
theorem dX3_add_16 : decode cX3_add 16 = .ok (.iload_n 2, 1) := by decide +kernel
theorem dX3_add_17 : decode cX3_add 17 = .ok (.aload_n 0, 1) := by decide +kernel
theorem dX3_add_18 : decode cX3_add 18 = .ok (.getfield 22, 3) := by decide +kernel
theorem dX3_add_21 : decode cX3_add 21 = .ok (.if_icmp .ge 27, 3) := by decide +kernel
theorem dX3_add_24 : decode cX3_add 24 = .ok (.aload_n 0, 1) := by decide +kernel
theorem dX3_add_25 : decode cX3_add 25 = .ok (.getfield 9, 3) := by decide +kernel
theorem dX3_add_28 : decode cX3_add 28 = .ok (.aload_n 0, 1) := by decide +kernel
theorem dX3_add_29 : decode cX3_add 29 = .ok (.getfield 15, 3) := by decide +kernel
theorem dX3_add_32 : decode cX3_add 32 = .ok (.iconst 1, 1) := by decide +kernel
theorem dX3_add_33 : decode cX3_add 33 = .ok (.iadd, 1) := by decide +kernel
theorem dX3_add_34 : decode cX3_add 34 = .ok (.iload_n 1, 1) := by decide +kernel
theorem dX3_add_35 : decode cX3_add 35 = .ok (.aload_n 0, 1) := by decide +kernel
theorem dX3_add_36 : decode cX3_add 36 = .ok (.getfield 22, 3) := by decide +kernel
theorem dX3_add_39 : decode cX3_add 39 = .ok (.imul, 1) := by decide +kernel
theorem dX3_add_40 : decode cX3_add 40 = .ok (.iadd, 1) := by decide +kernel
theorem dX3_add_41 : decode cX3_add 41 = .ok (.iload_n 2, 1) := by decide +kernel
theorem dX3_add_42 : decode cX3_add 42 = .ok (.iadd, 1) := by decide +kernel
theorem dX3_add_43 : decode cX3_add 43 = .ok (.dup2, 1) := by decide +kernel
theorem dX3_add_44 : decode cX3_add 44 = .ok (.iaload, 1) := by decide +kernel
theorem dX3_add_45 : decode cX3_add 45 = .ok (.iload_n 3, 1) := by decide +kernel
theorem dX3_add_46 : decode cX3_add 46 = .ok (.iadd, 1) := by decide +kernel
theorem dX3_add_47 : decode cX3_add 47 = .ok (.iastore, 1) := by decide +kernel
theorem dX3_add_48 : decode cX3_add 48 = .ok (.return_, 1) := by decide +kernel
theorem dX3_sumOf_0 : decode cX3_sumOf 0 = .ok (.iconst 0, 1) := by decide +kernel
theorem dX3_sumOf_1 : decode cX3_sumOf 1 = .ok (.istore_n 2, 1) := by decide +kernel
theorem dX3_sumOf_2 : decode cX3_sumOf 2 = .ok (.iconst 0, 1) := by decide +kernel
theorem dX3_sumOf_3 : decode cX3_sumOf 3 = .ok (.istore_n 3, 1) := by decide +kernel
theorem dX3_sumOf_4 : decode cX3_sumOf 4 = .ok (.iload_n 3, 1) := by decide +kernel
theorem dX3_sumOf_5 : decode cX3_sumOf 5 = .ok (.aload_n 0, 1) := by decide +kernel
theorem dX3_sumOf_6 : decode cX3_sumOf 6 = .ok (.getfield 9, 3) := by decide +kernel
theorem dX3_sumOf_9 : decode cX3_sumOf 9 = .ok (.aload_n 0, 1) := by decide +kernel
theorem dX3_sumOf_10 : decode cX3_sumOf 10 = .ok (.getfield 15, 3) := by decide +kernel
theorem dX3_sumOf_13 : decode cX3_sumOf 13 = .ok (.iaload, 1) := by decide +kernel
theorem dX3_sumOf_14 : decode cX3_sumOf 14 = .ok (.if_icmp .ge 18, 3) := by decide +kernel
theorem dX3_sumOf_17 : decode cX3_sumOf 17 = .ok (.iload_n 2, 1) := by decide +kernel
theorem dX3_sumOf_18 : decode cX3_sumOf 18 = .ok (.aload_n 0, 1) := by decide +kernel
theorem dX3_sumOf_19 : decode cX3_sumOf 19 = .ok (.iload_n 3, 1) := by decide +kernel
theorem dX3_sumOf_20 : decode cX3_sumOf 20 = .ok (.iload_n 1, 1) := by decide +kernel
theorem dX3_sumOf_21 : decode cX3_sumOf 21 = .ok (.invokevirtual 25, 3) := by decide +kernel
theorem dX3_sumOf_24 : decode cX3_sumOf 24 = .ok (.iadd, 1) := by decide +kernel
theorem dX3_sumOf_25 : decode cX3_sumOf 25 = .ok (.istore_n 2, 1) := by decide +kernel
theorem dX3_sumOf_26 : decode cX3_sumOf 26 = .ok (.iinc 3 1, 3) := by decide +kernel
theorem dX3_sumOf_29 : decode cX3_sumOf 29 = .ok (.goto (-25), 3) := by decide +kernel
theorem dX3_sumOf_32 : decode cX3_sumOf 32 = .ok (.iload_n 2, 1) := by decide +kernel
theorem dX3_sumOf_33 : decode cX3_sumOf 33 = .ok (.ireturn, 1) := by decide +kernel
theorem dX4_init_0 : decode cX4_init 0 = .ok (.aload_n 0, 1) := by decide +kernel
theorem dX4_init_1 : decode cX4_init 1 = .ok (.invokespecial 1, 3) := by decide +kernel
theorem dX4_init_4 : decode cX4_init 4 = .ok (.aload_n 0, 1) := by decide +kernel
theorem dX4_init_5 : decode cX4_init 5 = .ok (.new 7, 3) := by decide +kernel
theorem dX4_init_8 : decode cX4_init 8 = .ok (.dup, 1) := by decide +kernel
theorem dX4_init_9 : decode cX4_init 9 = .ok (.sipush 351, 3) := by decide +kernel
theorem dX4_init_12 : decode cX4_init 12 = .ok (.newarray .int, 2) := by decide +kernel
theorem dX4_init_14 : decode cX4_init 14 = .ok (.invokespecial 9, 3) := by decide +kernel
theorem dX4_init_17 : decode cX4_init 17 = .ok (.putfield 12, 3) := by decide +kernel
theorem dX4_init_20 : decode cX4_init 20 = .ok (.aload_n 0, 1) := by decide +kernel
theorem dX4_init_21 : decode cX4_init 21 = .ok (.new 7, 3) := by decide +kernel
theorem dX4_init_24 : decode cX4_init 24 = .ok (.dup, 1) := by decide +kernel
theorem dX4_init_25 : decode cX4_init 25 = .ok (.sipush 351, 3) := by decide +kernel
theorem dX4_init_28 : decode cX4_init 28 = .ok (.newarray .int, 2) := by decide +kernel
theorem dX4_init_30 : decode cX4_init 30 = .ok (.invokespecial 9, 3) := by decide +kernel
theorem dX4_init_33 : decode cX4_init 33 = .ok (.putfield 18, 3) := by decide +kernel
theorem dX4_init_36 : decode cX4_init 36 = .ok (.aload_n 0, 1) := by decide +kernel
theorem dX4_init_37 : decode cX4_init 37 = .ok (.new 21, 3) := by decide +kernel
theorem dX4_init_40 : decode cX4_init 40 = .ok (.dup, 1) := by decide +kernel
theorem dX4_init_41 : decode cX4_init 41 = .ok (.invokespecial 23, 3) := by decide +kernel
theorem dX4_init_44 : decode cX4_init 44 = .ok (.putfield 24, 3) := by decide +kernel
theorem dX4_init_47 : decode cX4_init 47 = .ok (.aload_n 0, 1) := by decide +kernel
theorem dX4_init_48 : decode cX4_init 48 = .ok (.new 28, 3) := by decide +kernel
theorem dX4_init_51 : decode cX4_init 51 = .ok (.dup, 1) := by decide +kernel
theorem dX4_init_52 : decode cX4_init 52 = .ok (.invokespecial 30, 3) := by decide +kernel
theorem dX4_init_55 : decode cX4_init 55 = .ok (.putfield 31, 3) := by decide +kernel
theorem dX4_init_58 : decode cX4_init 58 = .ok (.return_, 1) := by decide +kernel
theorem dX4_purpose_0 : decode cX4_purpose 0 = .ok (.aload_n 0, 1) := by decide +kernel
theorem dX4_purpose_1 : decode cX4_purpose 1 = .ok (.getfield 24, 3) := by decide +kernel
theorem dX4_purpose_4 : decode cX4_purpose 4 = .ok (.aload_n 0, 1) := by decide +kernel
theorem dX4_purpose_5 : decode cX4_purpose 5 = .ok (.getfield 12, 3) := by decide +kernel
theorem dX4_purpose_8 : decode cX4_purpose 8 = .ok (.invokevirtual 35, 3) := by decide +kernel
theorem dX4_purpose_11 : decode cX4_purpose 11 = .ok (.aload_n 0, 1) := by decide +kernel
theorem dX4_purpose_12 : decode cX4_purpose 12 = .ok (.getfield 24, 3) := by decide +kernel
theorem dX4_purpose_15 : decode cX4_purpose 15 = .ok (.aload_n 0, 1) := by decide +kernel
theorem dX4_purpose_16 : decode cX4_purpose 16 = .ok (.getfield 12, 3) := by decide +kernel
theorem dX4_purpose_19 : decode cX4_purpose 19 = .ok (.invokevirtual 39, 3) := by decide +kernel
theorem dX4_purpose_22 : decode cX4_purpose 22 = .ok (.invokevirtual 43, 3) := by decide +kernel
theorem dX4_purpose_25 : decode cX4_purpose 25 = .ok (.ireturn, 1) := by decide +kernel
theorem dX4_donor_0 : decode cX4_donor 0 = .ok (.aload_n 0, 1) := by decide +kernel
theorem dX4_donor_1 : decode cX4_donor 1 = .ok (.getfield 24, 3) := by decide +kernel
theorem dX4_donor_4 : decode cX4_donor 4 = .ok (.aload_n 0, 1) := by decide +kernel
theorem dX4_donor_5 : decode cX4_donor 5 = .ok (.getfield 12, 3) := by decide +kernel
theorem dX4_donor_8 : decode cX4_donor 8 = .ok (.invokevirtual 35, 3) := by decide +kernel
theorem dX4_donor_11 : decode cX4_donor 11 = .ok (.aload_n 0, 1) := by decide +kernel
theorem dX4_donor_12 : decode cX4_donor 12 = .ok (.getfield 24, 3) := by decide +kernel
theorem dX4_donor_15 : decode cX4_donor 15 = .ok (.aload_n 0, 1) := by decide +kernel
theorem dX4_donor_16 : decode cX4_donor 16 = .ok (.getfield 12, 3) := by decide +kernel
theorem dX4_donor_19 : decode cX4_donor 19 = .ok (.invokevirtual 47, 3) := by decide +kernel
theorem dX4_donor_22 : decode cX4_donor 22 = .ok (.invokevirtual 43, 3) := by decide +kernel
theorem dX4_donor_25 : decode cX4_donor 25 = .ok (.ireturn, 1) := by decide +kernel
theorem dX4_declare_0 : decode cX4_declare 0 = .ok (.aload_n 0, 1) := by decide +kernel
theorem dX4_declare_1 : decode cX4_declare 1 = .ok (.getfield 24, 3) := by decide +kernel
theorem dX4_declare_4 : decode cX4_declare 4 = .ok (.aload_n 0, 1) := by decide +kernel
theorem dX4_declare_5 : decode cX4_declare 5 = .ok (.getfield 12, 3) := by decide +kernel
theorem dX4_declare_8 : decode cX4_declare 8 = .ok (.invokevirtual 35, 3) := by decide +kernel
theorem dX4_declare_11 : decode cX4_declare 11 = .ok (.aload_n 0, 1) := by decide +kernel
theorem dX4_declare_12 : decode cX4_declare 12 = .ok (.getfield 24, 3) := by decide +kernel
theorem dX4_declare_15 : decode cX4_declare 15 = .ok (.aload_n 0, 1) := by decide +kernel
theorem dX4_declare_16 : decode cX4_declare 16 = .ok (.getfield 12, 3) := by decide +kernel
theorem dX4_declare_19 : decode cX4_declare 19 = .ok (.iload_n 1, 1) := by decide +kernel
theorem dX4_declare_20 : decode cX4_declare 20 = .ok (.iload_n 2, 1) := by decide +kernel
theorem dX4_declare_21 : decode cX4_declare 21 = .ok (.invokevirtual 50, 3) := by decide +kernel
theorem dX4_declare_24 : decode cX4_declare 24 = .ok (.invokevirtual 43, 3) := by decide +kernel
theorem dX4_declare_27 : decode cX4_declare 27 = .ok (.ireturn, 1) := by decide +kernel
theorem dX4_give_0 : decode cX4_give 0 = .ok (.aload_n 0, 1) := by decide +kernel
theorem dX4_give_1 : decode cX4_give 1 = .ok (.getfield 24, 3) := by decide +kernel
theorem dX4_give_4 : decode cX4_give 4 = .ok (.aload_n 0, 1) := by decide +kernel
theorem dX4_give_5 : decode cX4_give 5 = .ok (.getfield 12, 3) := by decide +kernel
theorem dX4_give_8 : decode cX4_give 8 = .ok (.invokevirtual 35, 3) := by decide +kernel
theorem dX4_give_11 : decode cX4_give 11 = .ok (.aload_n 0, 1) := by decide +kernel
theorem dX4_give_12 : decode cX4_give 12 = .ok (.getfield 24, 3) := by decide +kernel
theorem dX4_give_15 : decode cX4_give 15 = .ok (.aload_n 0, 1) := by decide +kernel
theorem dX4_give_16 : decode cX4_give 16 = .ok (.getfield 12, 3) := by decide +kernel
theorem dX4_give_19 : decode cX4_give 19 = .ok (.iload_n 1, 1) := by decide +kernel
theorem dX4_give_20 : decode cX4_give 20 = .ok (.iload_n 2, 1) := by decide +kernel
theorem dX4_give_21 : decode cX4_give 21 = .ok (.iload_n 3, 1) := by decide +kernel
theorem dX4_give_22 : decode cX4_give 22 = .ok (.invokevirtual 54, 3) := by decide +kernel
theorem dX4_give_25 : decode cX4_give 25 = .ok (.invokevirtual 43, 3) := by decide +kernel
theorem dX4_give_28 : decode cX4_give 28 = .ok (.ireturn, 1) := by decide +kernel
theorem dX4_pledge_0 : decode cX4_pledge 0 = .ok (.aload_n 0, 1) := by decide +kernel
theorem dX4_pledge_1 : decode cX4_pledge 1 = .ok (.getfield 24, 3) := by decide +kernel
theorem dX4_pledge_4 : decode cX4_pledge 4 = .ok (.aload_n 0, 1) := by decide +kernel
theorem dX4_pledge_5 : decode cX4_pledge 5 = .ok (.getfield 12, 3) := by decide +kernel
theorem dX4_pledge_8 : decode cX4_pledge 8 = .ok (.invokevirtual 35, 3) := by decide +kernel
theorem dX4_pledge_11 : decode cX4_pledge 11 = .ok (.aload_n 0, 1) := by decide +kernel
theorem dX4_pledge_12 : decode cX4_pledge 12 = .ok (.getfield 24, 3) := by decide +kernel
theorem dX4_pledge_15 : decode cX4_pledge 15 = .ok (.aload_n 0, 1) := by decide +kernel
theorem dX4_pledge_16 : decode cX4_pledge 16 = .ok (.getfield 12, 3) := by decide +kernel
theorem dX4_pledge_19 : decode cX4_pledge 19 = .ok (.iload_n 1, 1) := by decide +kernel
theorem dX4_pledge_20 : decode cX4_pledge 20 = .ok (.iload_n 2, 1) := by decide +kernel
theorem dX4_pledge_21 : decode cX4_pledge 21 = .ok (.iload_n 3, 1) := by decide +kernel
theorem dX4_pledge_22 : decode cX4_pledge 22 = .ok (.iload 4, 2) := by decide +kernel
theorem dX4_pledge_24 : decode cX4_pledge 24 = .ok (.invokevirtual 58, 3) := by decide +kernel
theorem dX4_pledge_27 : decode cX4_pledge 27 = .ok (.invokevirtual 43, 3) := by decide +kernel
theorem dX4_pledge_30 : decode cX4_pledge 30 = .ok (.ireturn, 1) := by decide +kernel
theorem dX4_miss_0 : decode cX4_miss 0 = .ok (.aload_n 0, 1) := by decide +kernel
theorem dX4_miss_1 : decode cX4_miss 1 = .ok (.getfield 24, 3) := by decide +kernel
theorem dX4_miss_4 : decode cX4_miss 4 = .ok (.aload_n 0, 1) := by decide +kernel
theorem dX4_miss_5 : decode cX4_miss 5 = .ok (.getfield 12, 3) := by decide +kernel
theorem dX4_miss_8 : decode cX4_miss 8 = .ok (.invokevirtual 35, 3) := by decide +kernel
theorem dX4_miss_11 : decode cX4_miss 11 = .ok (.aload_n 0, 1) := by decide +kernel
theorem dX4_miss_12 : decode cX4_miss 12 = .ok (.getfield 24, 3) := by decide +kernel
theorem dX4_miss_15 : decode cX4_miss 15 = .ok (.aload_n 0, 1) := by decide +kernel
theorem dX4_miss_16 : decode cX4_miss 16 = .ok (.getfield 12, 3) := by decide +kernel
theorem dX4_miss_19 : decode cX4_miss 19 = .ok (.iload_n 1, 1) := by decide +kernel
theorem dX4_miss_20 : decode cX4_miss 20 = .ok (.invokevirtual 62, 3) := by decide +kernel
theorem dX4_miss_23 : decode cX4_miss 23 = .ok (.invokevirtual 43, 3) := by decide +kernel
theorem dX4_miss_26 : decode cX4_miss 26 = .ok (.ireturn, 1) := by decide +kernel
theorem dX4_stop_0 : decode cX4_stop 0 = .ok (.aload_n 0, 1) := by decide +kernel
theorem dX4_stop_1 : decode cX4_stop 1 = .ok (.getfield 24, 3) := by decide +kernel
theorem dX4_stop_4 : decode cX4_stop 4 = .ok (.aload_n 0, 1) := by decide +kernel
theorem dX4_stop_5 : decode cX4_stop 5 = .ok (.getfield 12, 3) := by decide +kernel
theorem dX4_stop_8 : decode cX4_stop 8 = .ok (.invokevirtual 35, 3) := by decide +kernel
theorem dX4_stop_11 : decode cX4_stop 11 = .ok (.aload_n 0, 1) := by decide +kernel
theorem dX4_stop_12 : decode cX4_stop 12 = .ok (.getfield 24, 3) := by decide +kernel
theorem dX4_stop_15 : decode cX4_stop 15 = .ok (.aload_n 0, 1) := by decide +kernel
theorem dX4_stop_16 : decode cX4_stop 16 = .ok (.getfield 12, 3) := by decide +kernel
theorem dX4_stop_19 : decode cX4_stop 19 = .ok (.iload_n 1, 1) := by decide +kernel
theorem dX4_stop_20 : decode cX4_stop 20 = .ok (.invokevirtual 65, 3) := by decide +kernel
theorem dX4_stop_23 : decode cX4_stop 23 = .ok (.invokevirtual 43, 3) := by decide +kernel
theorem dX4_stop_26 : decode cX4_stop 26 = .ok (.ireturn, 1) := by decide +kernel
theorem dX4_claim_0 : decode cX4_claim 0 = .ok (.aload_n 0, 1) := by decide +kernel
theorem dX4_claim_1 : decode cX4_claim 1 = .ok (.getfield 24, 3) := by decide +kernel
theorem dX4_claim_4 : decode cX4_claim 4 = .ok (.aload_n 0, 1) := by decide +kernel
theorem dX4_claim_5 : decode cX4_claim 5 = .ok (.getfield 12, 3) := by decide +kernel
theorem dX4_claim_8 : decode cX4_claim 8 = .ok (.invokevirtual 35, 3) := by decide +kernel
theorem dX4_claim_11 : decode cX4_claim 11 = .ok (.aload_n 0, 1) := by decide +kernel
theorem dX4_claim_12 : decode cX4_claim 12 = .ok (.getfield 24, 3) := by decide +kernel
theorem dX4_claim_15 : decode cX4_claim 15 = .ok (.aload_n 0, 1) := by decide +kernel
theorem dX4_claim_16 : decode cX4_claim 16 = .ok (.getfield 12, 3) := by decide +kernel
theorem dX4_claim_19 : decode cX4_claim 19 = .ok (.iconst (-1), 1) := by decide +kernel
theorem dX4_claim_20 : decode cX4_claim 20 = .ok (.invokevirtual 68, 3) := by decide +kernel
theorem dX4_claim_23 : decode cX4_claim 23 = .ok (.invokevirtual 43, 3) := by decide +kernel
theorem dX4_claim_26 : decode cX4_claim 26 = .ok (.ireturn, 1) := by decide +kernel
theorem dX4_spend_0 : decode cX4_spend 0 = .ok (.aload_n 0, 1) := by decide +kernel
theorem dX4_spend_1 : decode cX4_spend 1 = .ok (.getfield 24, 3) := by decide +kernel
theorem dX4_spend_4 : decode cX4_spend 4 = .ok (.aload_n 0, 1) := by decide +kernel
theorem dX4_spend_5 : decode cX4_spend 5 = .ok (.getfield 12, 3) := by decide +kernel
theorem dX4_spend_8 : decode cX4_spend 8 = .ok (.invokevirtual 35, 3) := by decide +kernel
theorem dX4_spend_11 : decode cX4_spend 11 = .ok (.aload_n 0, 1) := by decide +kernel
theorem dX4_spend_12 : decode cX4_spend 12 = .ok (.getfield 24, 3) := by decide +kernel
theorem dX4_spend_15 : decode cX4_spend 15 = .ok (.aload_n 0, 1) := by decide +kernel
theorem dX4_spend_16 : decode cX4_spend 16 = .ok (.getfield 12, 3) := by decide +kernel
theorem dX4_spend_19 : decode cX4_spend 19 = .ok (.iload_n 1, 1) := by decide +kernel
theorem dX4_spend_20 : decode cX4_spend 20 = .ok (.iload_n 2, 1) := by decide +kernel
theorem dX4_spend_21 : decode cX4_spend 21 = .ok (.invokevirtual 71, 3) := by decide +kernel
theorem dX4_spend_24 : decode cX4_spend 24 = .ok (.invokevirtual 43, 3) := by decide +kernel
theorem dX4_spend_27 : decode cX4_spend 27 = .ok (.ireturn, 1) := by decide +kernel
theorem dX4_agree_0 : decode cX4_agree 0 = .ok (.aload_n 0, 1) := by decide +kernel
theorem dX4_agree_1 : decode cX4_agree 1 = .ok (.getfield 24, 3) := by decide +kernel
theorem dX4_agree_4 : decode cX4_agree 4 = .ok (.aload_n 0, 1) := by decide +kernel
theorem dX4_agree_5 : decode cX4_agree 5 = .ok (.getfield 12, 3) := by decide +kernel
theorem dX4_agree_8 : decode cX4_agree 8 = .ok (.invokevirtual 35, 3) := by decide +kernel
theorem dX4_agree_11 : decode cX4_agree 11 = .ok (.aload_n 0, 1) := by decide +kernel
theorem dX4_agree_12 : decode cX4_agree 12 = .ok (.getfield 24, 3) := by decide +kernel
theorem dX4_agree_15 : decode cX4_agree 15 = .ok (.aload_n 0, 1) := by decide +kernel
theorem dX4_agree_16 : decode cX4_agree 16 = .ok (.getfield 12, 3) := by decide +kernel
theorem dX4_agree_19 : decode cX4_agree 19 = .ok (.iload_n 1, 1) := by decide +kernel
theorem dX4_agree_20 : decode cX4_agree 20 = .ok (.iload_n 2, 1) := by decide +kernel
theorem dX4_agree_21 : decode cX4_agree 21 = .ok (.iload_n 3, 1) := by decide +kernel
theorem dX4_agree_22 : decode cX4_agree 22 = .ok (.invokevirtual 74, 3) := by decide +kernel
theorem dX4_agree_25 : decode cX4_agree 25 = .ok (.invokevirtual 43, 3) := by decide +kernel
theorem dX4_agree_28 : decode cX4_agree 28 = .ok (.ireturn, 1) := by decide +kernel
theorem dX4_merge_0 : decode cX4_merge 0 = .ok (.aload_n 0, 1) := by decide +kernel
theorem dX4_merge_1 : decode cX4_merge 1 = .ok (.getfield 24, 3) := by decide +kernel
theorem dX4_merge_4 : decode cX4_merge 4 = .ok (.aload_n 0, 1) := by decide +kernel
theorem dX4_merge_5 : decode cX4_merge 5 = .ok (.getfield 12, 3) := by decide +kernel
theorem dX4_merge_8 : decode cX4_merge 8 = .ok (.invokevirtual 35, 3) := by decide +kernel
theorem dX4_merge_11 : decode cX4_merge 11 = .ok (.aload_n 0, 1) := by decide +kernel
theorem dX4_merge_12 : decode cX4_merge 12 = .ok (.getfield 24, 3) := by decide +kernel
theorem dX4_merge_15 : decode cX4_merge 15 = .ok (.aload_n 0, 1) := by decide +kernel
theorem dX4_merge_16 : decode cX4_merge 16 = .ok (.getfield 12, 3) := by decide +kernel
theorem dX4_merge_19 : decode cX4_merge 19 = .ok (.iload_n 1, 1) := by decide +kernel
theorem dX4_merge_20 : decode cX4_merge 20 = .ok (.iload_n 2, 1) := by decide +kernel
theorem dX4_merge_21 : decode cX4_merge 21 = .ok (.invokevirtual 77, 3) := by decide +kernel
theorem dX4_merge_24 : decode cX4_merge 24 = .ok (.invokevirtual 43, 3) := by decide +kernel
theorem dX4_merge_27 : decode cX4_merge 27 = .ok (.ireturn, 1) := by decide +kernel
theorem dX4_refund_0 : decode cX4_refund 0 = .ok (.aload_n 0, 1) := by decide +kernel
theorem dX4_refund_1 : decode cX4_refund 1 = .ok (.getfield 24, 3) := by decide +kernel
theorem dX4_refund_4 : decode cX4_refund 4 = .ok (.aload_n 0, 1) := by decide +kernel
theorem dX4_refund_5 : decode cX4_refund 5 = .ok (.getfield 12, 3) := by decide +kernel
theorem dX4_refund_8 : decode cX4_refund 8 = .ok (.invokevirtual 35, 3) := by decide +kernel
theorem dX4_refund_11 : decode cX4_refund 11 = .ok (.aload_n 0, 1) := by decide +kernel
theorem dX4_refund_12 : decode cX4_refund 12 = .ok (.getfield 24, 3) := by decide +kernel
theorem dX4_refund_15 : decode cX4_refund 15 = .ok (.aload_n 0, 1) := by decide +kernel
theorem dX4_refund_16 : decode cX4_refund 16 = .ok (.getfield 12, 3) := by decide +kernel
theorem dX4_refund_19 : decode cX4_refund 19 = .ok (.iload_n 1, 1) := by decide +kernel
theorem dX4_refund_20 : decode cX4_refund 20 = .ok (.invokevirtual 80, 3) := by decide +kernel
theorem dX4_refund_23 : decode cX4_refund 23 = .ok (.invokevirtual 43, 3) := by decide +kernel
theorem dX4_refund_26 : decode cX4_refund 26 = .ok (.ireturn, 1) := by decide +kernel
theorem dX4_pass_0 : decode cX4_pass 0 = .ok (.aload_n 0, 1) := by decide +kernel
theorem dX4_pass_1 : decode cX4_pass 1 = .ok (.getfield 24, 3) := by decide +kernel
theorem dX4_pass_4 : decode cX4_pass 4 = .ok (.aload_n 0, 1) := by decide +kernel
theorem dX4_pass_5 : decode cX4_pass 5 = .ok (.getfield 12, 3) := by decide +kernel
theorem dX4_pass_8 : decode cX4_pass 8 = .ok (.invokevirtual 35, 3) := by decide +kernel
theorem dX4_pass_11 : decode cX4_pass 11 = .ok (.aload_n 0, 1) := by decide +kernel
theorem dX4_pass_12 : decode cX4_pass 12 = .ok (.getfield 24, 3) := by decide +kernel
theorem dX4_pass_15 : decode cX4_pass 15 = .ok (.aload_n 0, 1) := by decide +kernel
theorem dX4_pass_16 : decode cX4_pass 16 = .ok (.getfield 12, 3) := by decide +kernel
theorem dX4_pass_19 : decode cX4_pass 19 = .ok (.iload_n 1, 1) := by decide +kernel
theorem dX4_pass_20 : decode cX4_pass 20 = .ok (.sipush 999, 3) := by decide +kernel
theorem dX4_pass_23 : decode cX4_pass 23 = .ok (.invokevirtual 83, 3) := by decide +kernel
theorem dX4_pass_26 : decode cX4_pass 26 = .ok (.invokevirtual 43, 3) := by decide +kernel
theorem dX4_pass_29 : decode cX4_pass 29 = .ok (.ireturn, 1) := by decide +kernel
theorem dX4_set_0 : decode cX4_set 0 = .ok (.aload_n 0, 1) := by decide +kernel
theorem dX4_set_1 : decode cX4_set 1 = .ok (.getfield 24, 3) := by decide +kernel
theorem dX4_set_4 : decode cX4_set 4 = .ok (.aload_n 0, 1) := by decide +kernel
theorem dX4_set_5 : decode cX4_set 5 = .ok (.getfield 12, 3) := by decide +kernel
theorem dX4_set_8 : decode cX4_set 8 = .ok (.invokevirtual 35, 3) := by decide +kernel
theorem dX4_set_11 : decode cX4_set 11 = .ok (.aload_n 0, 1) := by decide +kernel
theorem dX4_set_12 : decode cX4_set 12 = .ok (.getfield 24, 3) := by decide +kernel
theorem dX4_set_15 : decode cX4_set 15 = .ok (.aload_n 0, 1) := by decide +kernel
theorem dX4_set_16 : decode cX4_set 16 = .ok (.getfield 12, 3) := by decide +kernel
theorem dX4_set_19 : decode cX4_set 19 = .ok (.iload_n 1, 1) := by decide +kernel
theorem dX4_set_20 : decode cX4_set 20 = .ok (.iload_n 2, 1) := by decide +kernel
theorem dX4_set_21 : decode cX4_set 21 = .ok (.invokevirtual 86, 3) := by decide +kernel
theorem dX4_set_24 : decode cX4_set 24 = .ok (.invokevirtual 43, 3) := by decide +kernel
theorem dX4_set_27 : decode cX4_set 27 = .ok (.ireturn, 1) := by decide +kernel
theorem dX4_purposeOf_0 : decode cX4_purposeOf 0 = .ok (.aload_n 0, 1) := by decide +kernel
theorem dX4_purposeOf_1 : decode cX4_purposeOf 1 = .ok (.getfield 12, 3) := by decide +kernel
theorem dX4_purposeOf_4 : decode cX4_purposeOf 4 = .ok (.iload_n 1, 1) := by decide +kernel
theorem dX4_purposeOf_5 : decode cX4_purposeOf 5 = .ok (.iload_n 2, 1) := by decide +kernel
theorem dX4_purposeOf_6 : decode cX4_purposeOf 6 = .ok (.invokevirtual 89, 3) := by decide +kernel
theorem dX4_purposeOf_9 : decode cX4_purposeOf 9 = .ok (.ireturn, 1) := by decide +kernel
theorem dX4_donorOf_0 : decode cX4_donorOf 0 = .ok (.aload_n 0, 1) := by decide +kernel
theorem dX4_donorOf_1 : decode cX4_donorOf 1 = .ok (.getfield 12, 3) := by decide +kernel
theorem dX4_donorOf_4 : decode cX4_donorOf 4 = .ok (.iload_n 1, 1) := by decide +kernel
theorem dX4_donorOf_5 : decode cX4_donorOf 5 = .ok (.iload_n 2, 1) := by decide +kernel
theorem dX4_donorOf_6 : decode cX4_donorOf 6 = .ok (.invokevirtual 92, 3) := by decide +kernel
theorem dX4_donorOf_9 : decode cX4_donorOf 9 = .ok (.ireturn, 1) := by decide +kernel
theorem dX4_giftOf_0 : decode cX4_giftOf 0 = .ok (.aload_n 0, 1) := by decide +kernel
theorem dX4_giftOf_1 : decode cX4_giftOf 1 = .ok (.getfield 12, 3) := by decide +kernel
theorem dX4_giftOf_4 : decode cX4_giftOf 4 = .ok (.iload_n 1, 1) := by decide +kernel
theorem dX4_giftOf_5 : decode cX4_giftOf 5 = .ok (.iload_n 2, 1) := by decide +kernel
theorem dX4_giftOf_6 : decode cX4_giftOf 6 = .ok (.invokevirtual 95, 3) := by decide +kernel
theorem dX4_giftOf_9 : decode cX4_giftOf 9 = .ok (.ireturn, 1) := by decide +kernel
theorem dX4_pledgeOf_0 : decode cX4_pledgeOf 0 = .ok (.aload_n 0, 1) := by decide +kernel
theorem dX4_pledgeOf_1 : decode cX4_pledgeOf 1 = .ok (.getfield 12, 3) := by decide +kernel
theorem dX4_pledgeOf_4 : decode cX4_pledgeOf 4 = .ok (.iload_n 1, 1) := by decide +kernel
theorem dX4_pledgeOf_5 : decode cX4_pledgeOf 5 = .ok (.iload_n 2, 1) := by decide +kernel
theorem dX4_pledgeOf_6 : decode cX4_pledgeOf 6 = .ok (.invokevirtual 98, 3) := by decide +kernel
theorem dX4_pledgeOf_9 : decode cX4_pledgeOf 9 = .ok (.ireturn, 1) := by decide +kernel
theorem dX4_count_0 : decode cX4_count 0 = .ok (.iload_n 1, 1) := by decide +kernel
theorem dX4_count_1 : decode cX4_count 1 = .ok (.lookupswitch 43 #[(11, 27), (12, 35)], 27) := by decide +kernel
theorem dX4_count_28 : decode cX4_count 28 = .ok (.aload_n 0, 1) := by decide +kernel
theorem dX4_count_29 : decode cX4_count 29 = .ok (.getfield 24, 3) := by decide +kernel
theorem dX4_count_32 : decode cX4_count 32 = .ok (.invokevirtual 101, 3) := by decide +kernel
theorem dX4_count_35 : decode cX4_count 35 = .ok (.ireturn, 1) := by decide +kernel
theorem dX4_count_36 : decode cX4_count 36 = .ok (.aload_n 0, 1) := by decide +kernel
theorem dX4_count_37 : decode cX4_count 37 = .ok (.getfield 31, 3) := by decide +kernel
theorem dX4_count_40 : decode cX4_count 40 = .ok (.invokevirtual 104, 3) := by decide +kernel
theorem dX4_count_43 : decode cX4_count 43 = .ok (.ireturn, 1) := by decide +kernel
theorem dX4_count_44 : decode cX4_count 44 = .ok (.aload_n 0, 1) := by decide +kernel
theorem dX4_count_45 : decode cX4_count 45 = .ok (.getfield 12, 3) := by decide +kernel
theorem dX4_count_48 : decode cX4_count 48 = .ok (.iload_n 1, 1) := by decide +kernel
theorem dX4_count_49 : decode cX4_count 49 = .ok (.invokevirtual 105, 3) := by decide +kernel
theorem dX4_count_52 : decode cX4_count 52 = .ok (.ireturn, 1) := by decide +kernel
theorem dX4_wouldClaim_0 : decode cX4_wouldClaim 0 = .ok (.iload_n 1, 1) := by decide +kernel
theorem dX4_wouldClaim_1 : decode cX4_wouldClaim 1 = .ok (.iconst (-1), 1) := by decide +kernel
theorem dX4_wouldClaim_2 : decode cX4_wouldClaim 2 = .ok (.if_icmp .eq 16, 3) := by decide +kernel
theorem dX4_wouldClaim_5 : decode cX4_wouldClaim 5 = .ok (.aload_n 0, 1) := by decide +kernel
theorem dX4_wouldClaim_6 : decode cX4_wouldClaim 6 = .ok (.getfield 12, 3) := by decide +kernel
theorem dX4_wouldClaim_9 : decode cX4_wouldClaim 9 = .ok (.iload_n 1, 1) := by decide +kernel
theorem dX4_wouldClaim_10 : decode cX4_wouldClaim 10 = .ok (.invokevirtual 108, 3) := by decide +kernel
theorem dX4_wouldClaim_13 : decode cX4_wouldClaim 13 = .ok (.ifCond .ne 5, 3) := by decide +kernel
theorem dX4_wouldClaim_16 : decode cX4_wouldClaim 16 = .ok (.iconst (-1), 1) := by decide +kernel
theorem dX4_wouldClaim_17 : decode cX4_wouldClaim 17 = .ok (.ireturn, 1) := by decide +kernel
theorem dX4_wouldClaim_18 : decode cX4_wouldClaim 18 = .ok (.aload_n 0, 1) := by decide +kernel
theorem dX4_wouldClaim_19 : decode cX4_wouldClaim 19 = .ok (.getfield 18, 3) := by decide +kernel
theorem dX4_wouldClaim_22 : decode cX4_wouldClaim 22 = .ok (.aload_n 0, 1) := by decide +kernel
theorem dX4_wouldClaim_23 : decode cX4_wouldClaim 23 = .ok (.getfield 12, 3) := by decide +kernel
theorem dX4_wouldClaim_26 : decode cX4_wouldClaim 26 = .ok (.invokevirtual 112, 3) := by decide +kernel
theorem dX4_wouldClaim_29 : decode cX4_wouldClaim 29 = .ok (.iconst 0, 1) := by decide +kernel
theorem dX4_wouldClaim_30 : decode cX4_wouldClaim 30 = .ok (.aload_n 0, 1) := by decide +kernel
theorem dX4_wouldClaim_31 : decode cX4_wouldClaim 31 = .ok (.getfield 18, 3) := by decide +kernel
theorem dX4_wouldClaim_34 : decode cX4_wouldClaim 34 = .ok (.iload_n 1, 1) := by decide +kernel
theorem dX4_wouldClaim_35 : decode cX4_wouldClaim 35 = .ok (.invokevirtual 68, 3) := by decide +kernel
theorem dX4_wouldClaim_38 : decode cX4_wouldClaim 38 = .ok (.invokestatic 115, 3) := by decide +kernel
theorem dX4_wouldClaim_41 : decode cX4_wouldClaim 41 = .ok (.ireturn, 1) := by decide +kernel
theorem dX4_consents_0 : decode cX4_consents 0 = .ok (.aload_n 0, 1) := by decide +kernel
theorem dX4_consents_1 : decode cX4_consents 1 = .ok (.getfield 12, 3) := by decide +kernel
theorem dX4_consents_4 : decode cX4_consents 4 = .ok (.iload_n 1, 1) := by decide +kernel
theorem dX4_consents_5 : decode cX4_consents 5 = .ok (.iload_n 2, 1) := by decide +kernel
theorem dX4_consents_6 : decode cX4_consents 6 = .ok (.invokevirtual 120, 3) := by decide +kernel
theorem dX4_consents_9 : decode cX4_consents 9 = .ok (.ireturn, 1) := by decide +kernel
theorem dX4_later_0 : decode cX4_later 0 = .ok (.aload_n 0, 1) := by decide +kernel
theorem dX4_later_1 : decode cX4_later 1 = .ok (.getfield 12, 3) := by decide +kernel
theorem dX4_later_4 : decode cX4_later 4 = .ok (.iload_n 1, 1) := by decide +kernel
theorem dX4_later_5 : decode cX4_later 5 = .ok (.invokevirtual 123, 3) := by decide +kernel
theorem dX4_later_8 : decode cX4_later 8 = .ok (.ifCond .eq 10, 3) := by decide +kernel
theorem dX4_later_11 : decode cX4_later 11 = .ok (.iload_n 2, 1) := by decide +kernel
theorem dX4_later_12 : decode cX4_later 12 = .ok (.invokestatic 126, 3) := by decide +kernel
theorem dX4_later_15 : decode cX4_later 15 = .ok (.ifCond .ne 5, 3) := by decide +kernel
theorem dX4_later_18 : decode cX4_later 18 = .ok (.iconst (-1), 1) := by decide +kernel
theorem dX4_later_19 : decode cX4_later 19 = .ok (.ireturn, 1) := by decide +kernel
theorem dX4_later_20 : decode cX4_later 20 = .ok (.aload_n 0, 1) := by decide +kernel
theorem dX4_later_21 : decode cX4_later 21 = .ok (.getfield 12, 3) := by decide +kernel
theorem dX4_later_24 : decode cX4_later 24 = .ok (.iload_n 1, 1) := by decide +kernel
theorem dX4_later_25 : decode cX4_later 25 = .ok (.invokevirtual 129, 3) := by decide +kernel
theorem dX4_later_28 : decode cX4_later 28 = .ok (.ifCond .eq 6, 3) := by decide +kernel
theorem dX4_later_31 : decode cX4_later 31 = .ok (.bipush (-2), 2) := by decide +kernel
theorem dX4_later_33 : decode cX4_later 33 = .ok (.ireturn, 1) := by decide +kernel
theorem dX4_later_34 : decode cX4_later 34 = .ok (.aload_n 0, 1) := by decide +kernel
theorem dX4_later_35 : decode cX4_later 35 = .ok (.getfield 18, 3) := by decide +kernel
theorem dX4_later_38 : decode cX4_later 38 = .ok (.aload_n 0, 1) := by decide +kernel
theorem dX4_later_39 : decode cX4_later 39 = .ok (.getfield 12, 3) := by decide +kernel
theorem dX4_later_42 : decode cX4_later 42 = .ok (.invokevirtual 112, 3) := by decide +kernel
theorem dX4_later_45 : decode cX4_later 45 = .ok (.aload_n 0, 1) := by decide +kernel
theorem dX4_later_46 : decode cX4_later 46 = .ok (.getfield 18, 3) := by decide +kernel
theorem dX4_later_49 : decode cX4_later 49 = .ok (.iload_n 2, 1) := by decide +kernel
theorem dX4_later_50 : decode cX4_later 50 = .ok (.sipush 1059, 3) := by decide +kernel
theorem dX4_later_53 : decode cX4_later 53 = .ok (.invokevirtual 83, 3) := by decide +kernel
theorem dX4_later_56 : decode cX4_later 56 = .ok (.pop, 1) := by decide +kernel
theorem dX4_later_57 : decode cX4_later 57 = .ok (.aload_n 0, 1) := by decide +kernel
theorem dX4_later_58 : decode cX4_later 58 = .ok (.getfield 18, 3) := by decide +kernel
theorem dX4_later_61 : decode cX4_later 61 = .ok (.iload_n 1, 1) := by decide +kernel
theorem dX4_later_62 : decode cX4_later 62 = .ok (.invokevirtual 132, 3) := by decide +kernel
theorem dX4_later_65 : decode cX4_later 65 = .ok (.ireturn, 1) := by decide +kernel
theorem dX4_undo_0 : decode cX4_undo 0 = .ok (.aload_n 0, 1) := by decide +kernel
theorem dX4_undo_1 : decode cX4_undo 1 = .ok (.getfield 24, 3) := by decide +kernel
theorem dX4_undo_4 : decode cX4_undo 4 = .ok (.aload_n 0, 1) := by decide +kernel
theorem dX4_undo_5 : decode cX4_undo 5 = .ok (.getfield 12, 3) := by decide +kernel
theorem dX4_undo_8 : decode cX4_undo 8 = .ok (.invokevirtual 135, 3) := by decide +kernel
theorem dX4_undo_11 : decode cX4_undo 11 = .ok (.ireturn, 1) := by decide +kernel
theorem dX4_type_0 : decode cX4_type 0 = .ok (.aload_n 0, 1) := by decide +kernel
theorem dX4_type_1 : decode cX4_type 1 = .ok (.getfield 31, 3) := by decide +kernel
theorem dX4_type_4 : decode cX4_type 4 = .ok (.iload_n 1, 1) := by decide +kernel
theorem dX4_type_5 : decode cX4_type 5 = .ok (.invokevirtual 139, 3) := by decide +kernel
theorem dX4_type_8 : decode cX4_type 8 = .ok (.ireturn, 1) := by decide +kernel
theorem dX4_clearText_0 : decode cX4_clearText 0 = .ok (.aload_n 0, 1) := by decide +kernel
theorem dX4_clearText_1 : decode cX4_clearText 1 = .ok (.getfield 31, 3) := by decide +kernel
theorem dX4_clearText_4 : decode cX4_clearText 4 = .ok (.invokevirtual 142, 3) := by decide +kernel
theorem dX4_clearText_7 : decode cX4_clearText 7 = .ok (.ireturn, 1) := by decide +kernel
theorem dX4_fault_0 : decode cX4_fault 0 = .ok (.iload_n 1, 1) := by decide +kernel
theorem dX4_fault_1 : decode cX4_fault 1 = .ok (.iconst 0, 1) := by decide +kernel
theorem dX4_fault_2 : decode cX4_fault 2 = .ok (.iconst 2, 1) := by decide +kernel
theorem dX4_fault_3 : decode cX4_fault 3 = .ok (.invokestatic 145, 3) := by decide +kernel
theorem dX4_fault_6 : decode cX4_fault 6 = .ok (.ifCond .ne 5, 3) := by decide +kernel
theorem dX4_fault_9 : decode cX4_fault 9 = .ok (.iconst (-1), 1) := by decide +kernel
theorem dX4_fault_10 : decode cX4_fault 10 = .ok (.ireturn, 1) := by decide +kernel
theorem dX4_fault_11 : decode cX4_fault 11 = .ok (.aload_n 0, 1) := by decide +kernel
theorem dX4_fault_12 : decode cX4_fault 12 = .ok (.getfield 18, 3) := by decide +kernel
theorem dX4_fault_15 : decode cX4_fault 15 = .ok (.aload_n 0, 1) := by decide +kernel
theorem dX4_fault_16 : decode cX4_fault 16 = .ok (.getfield 12, 3) := by decide +kernel
theorem dX4_fault_19 : decode cX4_fault 19 = .ok (.invokevirtual 112, 3) := by decide +kernel
theorem dX4_fault_22 : decode cX4_fault 22 = .ok (.aload_n 0, 1) := by decide +kernel
theorem dX4_fault_23 : decode cX4_fault 23 = .ok (.getfield 31, 3) := by decide +kernel
theorem dX4_fault_26 : decode cX4_fault 26 = .ok (.aload_n 0, 1) := by decide +kernel
theorem dX4_fault_27 : decode cX4_fault 27 = .ok (.getfield 18, 3) := by decide +kernel
theorem dX4_fault_30 : decode cX4_fault 30 = .ok (.invokevirtual 149, 3) := by decide +kernel
theorem dX4_fault_33 : decode cX4_fault 33 = .ok (.pop, 1) := by decide +kernel
theorem dX4_fault_34 : decode cX4_fault 34 = .ok (.aload_n 0, 1) := by decide +kernel
theorem dX4_fault_35 : decode cX4_fault 35 = .ok (.getfield 31, 3) := by decide +kernel
theorem dX4_fault_38 : decode cX4_fault 38 = .ok (.iload_n 1, 1) := by decide +kernel
theorem dX4_fault_39 : decode cX4_fault 39 = .ok (.invokevirtual 152, 3) := by decide +kernel
theorem dX4_fault_42 : decode cX4_fault 42 = .ok (.ireturn, 1) := by decide +kernel
theorem dX4_play_0 : decode cX4_play 0 = .ok (.aload_n 0, 1) := by decide +kernel
theorem dX4_play_1 : decode cX4_play 1 = .ok (.getfield 18, 3) := by decide +kernel
theorem dX4_play_4 : decode cX4_play 4 = .ok (.aload_n 0, 1) := by decide +kernel
theorem dX4_play_5 : decode cX4_play 5 = .ok (.getfield 12, 3) := by decide +kernel
theorem dX4_play_8 : decode cX4_play 8 = .ok (.invokevirtual 112, 3) := by decide +kernel
theorem dX4_play_11 : decode cX4_play 11 = .ok (.aload_n 0, 1) := by decide +kernel
theorem dX4_play_12 : decode cX4_play 12 = .ok (.getfield 31, 3) := by decide +kernel
theorem dX4_play_15 : decode cX4_play 15 = .ok (.aload_n 0, 1) := by decide +kernel
theorem dX4_play_16 : decode cX4_play 16 = .ok (.getfield 18, 3) := by decide +kernel
theorem dX4_play_19 : decode cX4_play 19 = .ok (.invokevirtual 149, 3) := by decide +kernel
theorem dX4_play_22 : decode cX4_play 22 = .ok (.istore_n 1, 1) := by decide +kernel
theorem dX4_play_23 : decode cX4_play 23 = .ok (.iload_n 1, 1) := by decide +kernel
theorem dX4_play_24 : decode cX4_play 24 = .ok (.iconst (-1), 1) := by decide +kernel
theorem dX4_play_25 : decode cX4_play 25 = .ok (.if_icmp .ne 6, 3) := by decide +kernel
theorem dX4_play_28 : decode cX4_play 28 = .ok (.bipush (-2), 2) := by decide +kernel
theorem dX4_play_30 : decode cX4_play 30 = .ok (.ireturn, 1) := by decide +kernel
theorem dX4_play_31 : decode cX4_play 31 = .ok (.aload_n 0, 1) := by decide +kernel
theorem dX4_play_32 : decode cX4_play 32 = .ok (.getfield 24, 3) := by decide +kernel
theorem dX4_play_35 : decode cX4_play 35 = .ok (.aload_n 0, 1) := by decide +kernel
theorem dX4_play_36 : decode cX4_play 36 = .ok (.getfield 12, 3) := by decide +kernel
theorem dX4_play_39 : decode cX4_play 39 = .ok (.invokevirtual 35, 3) := by decide +kernel
theorem dX4_play_42 : decode cX4_play 42 = .ok (.aload_n 0, 1) := by decide +kernel
theorem dX4_play_43 : decode cX4_play 43 = .ok (.getfield 12, 3) := by decide +kernel
theorem dX4_play_46 : decode cX4_play 46 = .ok (.aload_n 0, 1) := by decide +kernel
theorem dX4_play_47 : decode cX4_play 47 = .ok (.getfield 18, 3) := by decide +kernel
theorem dX4_play_50 : decode cX4_play 50 = .ok (.invokevirtual 112, 3) := by decide +kernel
theorem dX4_play_53 : decode cX4_play 53 = .ok (.aload_n 0, 1) := by decide +kernel
theorem dX4_play_54 : decode cX4_play 54 = .ok (.getfield 24, 3) := by decide +kernel
theorem dX4_play_57 : decode cX4_play 57 = .ok (.iload_n 1, 1) := by decide +kernel
theorem dX4_play_58 : decode cX4_play 58 = .ok (.invokevirtual 43, 3) := by decide +kernel
theorem dX4_play_61 : decode cX4_play 61 = .ok (.ireturn, 1) := by decide +kernel
theorem dX4_within_0 : decode cX4_within 0 = .ok (.iload_n 0, 1) := by decide +kernel
theorem dX4_within_1 : decode cX4_within 1 = .ok (.iload_n 1, 1) := by decide +kernel
theorem dX4_within_2 : decode cX4_within 2 = .ok (.if_icmp .lt 12, 3) := by decide +kernel
theorem dX4_within_5 : decode cX4_within 5 = .ok (.iload_n 0, 1) := by decide +kernel
theorem dX4_within_6 : decode cX4_within 6 = .ok (.iload_n 2, 1) := by decide +kernel
theorem dX4_within_7 : decode cX4_within 7 = .ok (.if_icmp .gt 7, 3) := by decide +kernel
theorem dX4_within_10 : decode cX4_within 10 = .ok (.iconst 1, 1) := by decide +kernel
theorem dX4_within_11 : decode cX4_within 11 = .ok (.goto 4, 3) := by decide +kernel
theorem dX4_within_14 : decode cX4_within 14 = .ok (.iconst 0, 1) := by decide +kernel
theorem dX4_within_15 : decode cX4_within 15 = .ok (.ireturn, 1) := by decide +kernel
theorem dX5_init_0 : decode cX5_init 0 = .ok (.aload_n 0, 1) := by decide +kernel
theorem dX5_init_1 : decode cX5_init 1 = .ok (.invokespecial 1, 3) := by decide +kernel
theorem dX5_init_4 : decode cX5_init 4 = .ok (.aload_n 0, 1) := by decide +kernel
theorem dX5_init_5 : decode cX5_init 5 = .ok (.sipush 345, 3) := by decide +kernel
theorem dX5_init_8 : decode cX5_init 8 = .ok (.newarray .int, 2) := by decide +kernel
theorem dX5_init_10 : decode cX5_init 10 = .ok (.putfield 7, 3) := by decide +kernel
theorem dX5_init_13 : decode cX5_init 13 = .ok (.aload_n 0, 1) := by decide +kernel
theorem dX5_init_14 : decode cX5_init 14 = .ok (.sipush 1380, 3) := by decide +kernel
theorem dX5_init_17 : decode cX5_init 17 = .ok (.newarray .int, 2) := by decide +kernel
theorem dX5_init_19 : decode cX5_init 19 = .ok (.putfield 13, 3) := by decide +kernel
theorem dX5_init_22 : decode cX5_init 22 = .ok (.aload_n 0, 1) := by decide +kernel
theorem dX5_init_23 : decode cX5_init 23 = .ok (.sipush 345, 3) := by decide +kernel
theorem dX5_init_26 : decode cX5_init 26 = .ok (.newarray .int, 2) := by decide +kernel
theorem dX5_init_28 : decode cX5_init 28 = .ok (.putfield 16, 3) := by decide +kernel
theorem dX5_init_31 : decode cX5_init 31 = .ok (.aload_n 0, 1) := by decide +kernel
theorem dX5_init_32 : decode cX5_init 32 = .ok (.sipush 345, 3) := by decide +kernel
theorem dX5_init_35 : decode cX5_init 35 = .ok (.newarray .int, 2) := by decide +kernel
theorem dX5_init_37 : decode cX5_init 37 = .ok (.putfield 19, 3) := by decide +kernel
theorem dX5_init_40 : decode cX5_init 40 = .ok (.aload_n 0, 1) := by decide +kernel
theorem dX5_init_41 : decode cX5_init 41 = .ok (.bipush 80, 2) := by decide +kernel
theorem dX5_init_43 : decode cX5_init 43 = .ok (.newarray .int, 2) := by decide +kernel
theorem dX5_init_45 : decode cX5_init 45 = .ok (.putfield 22, 3) := by decide +kernel
theorem dX5_init_48 : decode cX5_init 48 = .ok (.aload_n 0, 1) := by decide +kernel
theorem dX5_init_49 : decode cX5_init 49 = .ok (.bipush 9, 2) := by decide +kernel
theorem dX5_init_51 : decode cX5_init 51 = .ok (.newarray .long, 2) := by decide +kernel
theorem dX5_init_53 : decode cX5_init 53 = .ok (.putfield 25, 3) := by decide +kernel
theorem dX5_init_56 : decode cX5_init 56 = .ok (.aload_n 0, 1) := by decide +kernel
theorem dX5_init_57 : decode cX5_init 57 = .ok (.bipush 9, 2) := by decide +kernel
theorem dX5_init_59 : decode cX5_init 59 = .ok (.newarray .int, 2) := by decide +kernel
theorem dX5_init_61 : decode cX5_init 61 = .ok (.putfield 29, 3) := by decide +kernel
theorem dX5_init_64 : decode cX5_init 64 = .ok (.aload_n 0, 1) := by decide +kernel
theorem dX5_init_65 : decode cX5_init 65 = .ok (.iconst 4, 1) := by decide +kernel
theorem dX5_init_66 : decode cX5_init 66 = .ok (.newarray .int, 2) := by decide +kernel
theorem dX5_init_68 : decode cX5_init 68 = .ok (.putfield 32, 3) := by decide +kernel
theorem dX5_init_71 : decode cX5_init 71 = .ok (.aload_n 0, 1) := by decide +kernel
theorem dX5_init_72 : decode cX5_init 72 = .ok (.getfield 7, 3) := by decide +kernel
theorem dX5_init_75 : decode cX5_init 75 = .ok (.iconst 0, 1) := by decide +kernel
theorem dX5_init_76 : decode cX5_init 76 = .ok (.bipush 60, 2) := by decide +kernel
theorem dX5_init_78 : decode cX5_init 78 = .ok (.iastore, 1) := by decide +kernel
theorem dX5_init_79 : decode cX5_init 79 = .ok (.aload_n 0, 1) := by decide +kernel
theorem dX5_init_80 : decode cX5_init 80 = .ok (.getfield 7, 3) := by decide +kernel
theorem dX5_init_83 : decode cX5_init 83 = .ok (.iconst 1, 1) := by decide +kernel
theorem dX5_init_84 : decode cX5_init 84 = .ok (.sipush 5000, 3) := by decide +kernel
theorem dX5_init_87 : decode cX5_init 87 = .ok (.iastore, 1) := by decide +kernel
theorem dX5_init_88 : decode cX5_init 88 = .ok (.aload_n 0, 1) := by decide +kernel
theorem dX5_init_89 : decode cX5_init 89 = .ok (.getfield 7, 3) := by decide +kernel
theorem dX5_init_92 : decode cX5_init 92 = .ok (.iconst 2, 1) := by decide +kernel
theorem dX5_init_93 : decode cX5_init 93 = .ok (.iconst 1, 1) := by decide +kernel
theorem dX5_init_94 : decode cX5_init 94 = .ok (.iastore, 1) := by decide +kernel
theorem dX5_init_95 : decode cX5_init 95 = .ok (.aload_n 0, 1) := by decide +kernel
theorem dX5_init_96 : decode cX5_init 96 = .ok (.iconst 0, 1) := by decide +kernel
theorem dX5_init_97 : decode cX5_init 97 = .ok (.bipush 9, 2) := by decide +kernel
theorem dX5_init_99 : decode cX5_init 99 = .ok (.bipush (-4), 2) := by decide +kernel
theorem dX5_init_101 : decode cX5_init 101 = .ok (.invokevirtual 35, 3) := by decide +kernel
theorem dX5_init_104 : decode cX5_init 104 = .ok (.aload_n 0, 1) := by decide +kernel
theorem dX5_init_105 : decode cX5_init 105 = .ok (.getfield 25, 3) := by decide +kernel
theorem dX5_init_108 : decode cX5_init 108 = .ok (.iconst 0, 1) := by decide +kernel
theorem dX5_init_109 : decode cX5_init 109 = .ok (.ldc2_w 39, 3) := by decide +kernel
theorem dX5_init_112 : decode cX5_init 112 = .ok (.lastore, 1) := by decide +kernel
theorem dX5_init_113 : decode cX5_init 113 = .ok (.aload_n 0, 1) := by decide +kernel
theorem dX5_init_114 : decode cX5_init 114 = .ok (.getfield 25, 3) := by decide +kernel
theorem dX5_init_117 : decode cX5_init 117 = .ok (.iconst 1, 1) := by decide +kernel
theorem dX5_init_118 : decode cX5_init 118 = .ok (.ldc2_w 41, 3) := by decide +kernel
theorem dX5_init_121 : decode cX5_init 121 = .ok (.lastore, 1) := by decide +kernel
theorem dX5_init_122 : decode cX5_init 122 = .ok (.aload_n 0, 1) := by decide +kernel
theorem dX5_init_123 : decode cX5_init 123 = .ok (.getfield 25, 3) := by decide +kernel
theorem dX5_init_126 : decode cX5_init 126 = .ok (.iconst 2, 1) := by decide +kernel
theorem dX5_init_127 : decode cX5_init 127 = .ok (.ldc2_w 43, 3) := by decide +kernel
theorem dX5_init_130 : decode cX5_init 130 = .ok (.lastore, 1) := by decide +kernel
theorem dX5_init_131 : decode cX5_init 131 = .ok (.aload_n 0, 1) := by decide +kernel
theorem dX5_init_132 : decode cX5_init 132 = .ok (.getfield 25, 3) := by decide +kernel
theorem dX5_init_135 : decode cX5_init 135 = .ok (.iconst 3, 1) := by decide +kernel
theorem dX5_init_136 : decode cX5_init 136 = .ok (.ldc2_w 45, 3) := by decide +kernel
theorem dX5_init_139 : decode cX5_init 139 = .ok (.lastore, 1) := by decide +kernel
theorem dX5_init_140 : decode cX5_init 140 = .ok (.aload_n 0, 1) := by decide +kernel
theorem dX5_init_141 : decode cX5_init 141 = .ok (.getfield 25, 3) := by decide +kernel
theorem dX5_init_144 : decode cX5_init 144 = .ok (.iconst 4, 1) := by decide +kernel
theorem dX5_init_145 : decode cX5_init 145 = .ok (.ldc2_w 47, 3) := by decide +kernel
theorem dX5_init_148 : decode cX5_init 148 = .ok (.lastore, 1) := by decide +kernel
theorem dX5_init_149 : decode cX5_init 149 = .ok (.aload_n 0, 1) := by decide +kernel
theorem dX5_init_150 : decode cX5_init 150 = .ok (.getfield 25, 3) := by decide +kernel
theorem dX5_init_153 : decode cX5_init 153 = .ok (.iconst 5, 1) := by decide +kernel
theorem dX5_init_154 : decode cX5_init 154 = .ok (.ldc2_w 49, 3) := by decide +kernel
theorem dX5_init_157 : decode cX5_init 157 = .ok (.lastore, 1) := by decide +kernel
theorem dX5_init_158 : decode cX5_init 158 = .ok (.aload_n 0, 1) := by decide +kernel
theorem dX5_init_159 : decode cX5_init 159 = .ok (.getfield 25, 3) := by decide +kernel
theorem dX5_init_162 : decode cX5_init 162 = .ok (.bipush 6, 2) := by decide +kernel
theorem dX5_init_164 : decode cX5_init 164 = .ok (.ldc2_w 51, 3) := by decide +kernel
theorem dX5_init_167 : decode cX5_init 167 = .ok (.lastore, 1) := by decide +kernel
theorem dX5_init_168 : decode cX5_init 168 = .ok (.aload_n 0, 1) := by decide +kernel
theorem dX5_init_169 : decode cX5_init 169 = .ok (.getfield 25, 3) := by decide +kernel
theorem dX5_init_172 : decode cX5_init 172 = .ok (.bipush 7, 2) := by decide +kernel
theorem dX5_init_174 : decode cX5_init 174 = .ok (.ldc2_w 53, 3) := by decide +kernel
theorem dX5_init_177 : decode cX5_init 177 = .ok (.lastore, 1) := by decide +kernel
theorem dX5_init_178 : decode cX5_init 178 = .ok (.aload_n 0, 1) := by decide +kernel
theorem dX5_init_179 : decode cX5_init 179 = .ok (.getfield 25, 3) := by decide +kernel
theorem dX5_init_182 : decode cX5_init 182 = .ok (.bipush 8, 2) := by decide +kernel
theorem dX5_init_184 : decode cX5_init 184 = .ok (.ldc2_w 55, 3) := by decide +kernel
theorem dX5_init_187 : decode cX5_init 187 = .ok (.lastore, 1) := by decide +kernel
theorem dX5_init_188 : decode cX5_init 188 = .ok (.aload_n 0, 1) := by decide +kernel
theorem dX5_init_189 : decode cX5_init 189 = .ok (.getfield 29, 3) := by decide +kernel
theorem dX5_init_192 : decode cX5_init 192 = .ok (.iconst 0, 1) := by decide +kernel
theorem dX5_init_193 : decode cX5_init 193 = .ok (.iconst 3, 1) := by decide +kernel
theorem dX5_init_194 : decode cX5_init 194 = .ok (.iastore, 1) := by decide +kernel
theorem dX5_init_195 : decode cX5_init 195 = .ok (.aload_n 0, 1) := by decide +kernel
theorem dX5_init_196 : decode cX5_init 196 = .ok (.getfield 29, 3) := by decide +kernel
theorem dX5_init_199 : decode cX5_init 199 = .ok (.iconst 1, 1) := by decide +kernel
theorem dX5_init_200 : decode cX5_init 200 = .ok (.iconst 4, 1) := by decide +kernel
theorem dX5_init_201 : decode cX5_init 201 = .ok (.iastore, 1) := by decide +kernel
theorem dX5_init_202 : decode cX5_init 202 = .ok (.aload_n 0, 1) := by decide +kernel
theorem dX5_init_203 : decode cX5_init 203 = .ok (.getfield 29, 3) := by decide +kernel
theorem dX5_init_206 : decode cX5_init 206 = .ok (.iconst 2, 1) := by decide +kernel
theorem dX5_init_207 : decode cX5_init 207 = .ok (.iconst 1, 1) := by decide +kernel
theorem dX5_init_208 : decode cX5_init 208 = .ok (.iastore, 1) := by decide +kernel
theorem dX5_init_209 : decode cX5_init 209 = .ok (.aload_n 0, 1) := by decide +kernel
theorem dX5_init_210 : decode cX5_init 210 = .ok (.getfield 29, 3) := by decide +kernel
theorem dX5_init_213 : decode cX5_init 213 = .ok (.iconst 4, 1) := by decide +kernel
theorem dX5_init_214 : decode cX5_init 214 = .ok (.iconst 2, 1) := by decide +kernel
theorem dX5_init_215 : decode cX5_init 215 = .ok (.iastore, 1) := by decide +kernel
theorem dX5_init_216 : decode cX5_init 216 = .ok (.aload_n 0, 1) := by decide +kernel
theorem dX5_init_217 : decode cX5_init 217 = .ok (.getfield 29, 3) := by decide +kernel
theorem dX5_init_220 : decode cX5_init 220 = .ok (.iconst 5, 1) := by decide +kernel
theorem dX5_init_221 : decode cX5_init 221 = .ok (.iconst 3, 1) := by decide +kernel
theorem dX5_init_222 : decode cX5_init 222 = .ok (.iastore, 1) := by decide +kernel
theorem dX5_init_223 : decode cX5_init 223 = .ok (.aload_n 0, 1) := by decide +kernel
theorem dX5_init_224 : decode cX5_init 224 = .ok (.getfield 29, 3) := by decide +kernel
theorem dX5_init_227 : decode cX5_init 227 = .ok (.bipush 6, 2) := by decide +kernel
theorem dX5_init_229 : decode cX5_init 229 = .ok (.iconst 2, 1) := by decide +kernel
theorem dX5_init_230 : decode cX5_init 230 = .ok (.iastore, 1) := by decide +kernel
theorem dX5_init_231 : decode cX5_init 231 = .ok (.aload_n 0, 1) := by decide +kernel
theorem dX5_init_232 : decode cX5_init 232 = .ok (.getfield 29, 3) := by decide +kernel
theorem dX5_init_235 : decode cX5_init 235 = .ok (.bipush 7, 2) := by decide +kernel
theorem dX5_init_237 : decode cX5_init 237 = .ok (.iconst 1, 1) := by decide +kernel
theorem dX5_init_238 : decode cX5_init 238 = .ok (.iastore, 1) := by decide +kernel
theorem dX5_init_239 : decode cX5_init 239 = .ok (.aload_n 0, 1) := by decide +kernel
theorem dX5_init_240 : decode cX5_init 240 = .ok (.getfield 29, 3) := by decide +kernel
theorem dX5_init_243 : decode cX5_init 243 = .ok (.bipush 8, 2) := by decide +kernel
theorem dX5_init_245 : decode cX5_init 245 = .ok (.iconst 1, 1) := by decide +kernel
theorem dX5_init_246 : decode cX5_init 246 = .ok (.iastore, 1) := by decide +kernel
theorem dX5_init_247 : decode cX5_init 247 = .ok (.return_, 1) := by decide +kernel
theorem dX5_in_0 : decode cX5_in 0 = .ok (.iload_n 0, 1) := by decide +kernel
theorem dX5_in_1 : decode cX5_in 1 = .ok (.iload_n 1, 1) := by decide +kernel
theorem dX5_in_2 : decode cX5_in 2 = .ok (.if_icmp .lt 12, 3) := by decide +kernel
theorem dX5_in_5 : decode cX5_in 5 = .ok (.iload_n 0, 1) := by decide +kernel
theorem dX5_in_6 : decode cX5_in 6 = .ok (.iload_n 2, 1) := by decide +kernel
theorem dX5_in_7 : decode cX5_in 7 = .ok (.if_icmp .gt 7, 3) := by decide +kernel
theorem dX5_in_10 : decode cX5_in 10 = .ok (.iconst 1, 1) := by decide +kernel
theorem dX5_in_11 : decode cX5_in 11 = .ok (.goto 4, 3) := by decide +kernel
theorem dX5_in_14 : decode cX5_in 14 = .ok (.iconst 0, 1) := by decide +kernel
theorem dX5_in_15 : decode cX5_in 15 = .ok (.ireturn, 1) := by decide +kernel
theorem dX5_copies_0 : decode cX5_copies 0 = .ok (.iconst 0, 1) := by decide +kernel
theorem dX5_copies_1 : decode cX5_copies 1 = .ok (.istore_n 2, 1) := by decide +kernel
theorem dX5_copies_2 : decode cX5_copies 2 = .ok (.iload_n 2, 1) := by decide +kernel
theorem dX5_copies_3 : decode cX5_copies 3 = .ok (.sipush 345, 3) := by decide +kernel
theorem dX5_copies_6 : decode cX5_copies 6 = .ok (.if_icmp .ge 15, 3) := by decide +kernel
theorem dX5_copies_9 : decode cX5_copies 9 = .ok (.aload_n 1, 1) := by decide +kernel
theorem dX5_copies_10 : decode cX5_copies 10 = .ok (.iload_n 2, 1) := by decide +kernel
theorem dX5_copies_11 : decode cX5_copies 11 = .ok (.aload_n 0, 1) := by decide +kernel
theorem dX5_copies_12 : decode cX5_copies 12 = .ok (.iload_n 2, 1) := by decide +kernel
theorem dX5_copies_13 : decode cX5_copies 13 = .ok (.iaload, 1) := by decide +kernel
theorem dX5_copies_14 : decode cX5_copies 14 = .ok (.iastore, 1) := by decide +kernel
theorem dX5_copies_15 : decode cX5_copies 15 = .ok (.iinc 2 1, 3) := by decide +kernel
theorem dX5_copies_18 : decode cX5_copies 18 = .ok (.goto (-16), 3) := by decide +kernel
theorem dX5_copies_21 : decode cX5_copies 21 = .ok (.return_, 1) := by decide +kernel
theorem dX5_changes_0 : decode cX5_changes 0 = .ok (.aload_n 0, 1) := by decide +kernel
theorem dX5_changes_1 : decode cX5_changes 1 = .ok (.getfield 57, 3) := by decide +kernel
theorem dX5_changes_4 : decode cX5_changes 4 = .ok (.ifCond .eq 4, 3) := by decide +kernel
theorem dX5_changes_7 : decode cX5_changes 7 = .ok (.return_, 1) := by decide +kernel
theorem dX5_changes_8 : decode cX5_changes 8 = .ok (.aload_n 0, 1) := by decide +kernel
theorem dX5_changes_9 : decode cX5_changes 9 = .ok (.getfield 61, 3) := by decide +kernel
theorem dX5_changes_12 : decode cX5_changes 12 = .ok (.iconst 4, 1) := by decide +kernel
theorem dX5_changes_13 : decode cX5_changes 13 = .ok (.if_icmp .ne 44, 3) := by decide +kernel
theorem dX5_changes_16 : decode cX5_changes 16 = .ok (.iconst 0, 1) := by decide +kernel
theorem dX5_changes_17 : decode cX5_changes 17 = .ok (.istore_n 1, 1) := by decide +kernel
theorem dX5_changes_18 : decode cX5_changes 18 = .ok (.iload_n 1, 1) := by decide +kernel
theorem dX5_changes_19 : decode cX5_changes 19 = .ok (.sipush 1035, 3) := by decide +kernel
theorem dX5_changes_22 : decode cX5_changes 22 = .ok (.if_icmp .ge 25, 3) := by decide +kernel
theorem dX5_changes_25 : decode cX5_changes 25 = .ok (.aload_n 0, 1) := by decide +kernel
theorem dX5_changes_26 : decode cX5_changes 26 = .ok (.getfield 13, 3) := by decide +kernel
theorem dX5_changes_29 : decode cX5_changes 29 = .ok (.iload_n 1, 1) := by decide +kernel
theorem dX5_changes_30 : decode cX5_changes 30 = .ok (.aload_n 0, 1) := by decide +kernel
theorem dX5_changes_31 : decode cX5_changes 31 = .ok (.getfield 13, 3) := by decide +kernel
theorem dX5_changes_34 : decode cX5_changes 34 = .ok (.iload_n 1, 1) := by decide +kernel
theorem dX5_changes_35 : decode cX5_changes 35 = .ok (.sipush 345, 3) := by decide +kernel
theorem dX5_changes_38 : decode cX5_changes 38 = .ok (.iadd, 1) := by decide +kernel
theorem dX5_changes_39 : decode cX5_changes 39 = .ok (.iaload, 1) := by decide +kernel
theorem dX5_changes_40 : decode cX5_changes 40 = .ok (.iastore, 1) := by decide +kernel
theorem dX5_changes_41 : decode cX5_changes 41 = .ok (.iinc 1 1, 3) := by decide +kernel
theorem dX5_changes_44 : decode cX5_changes 44 = .ok (.goto (-26), 3) := by decide +kernel
theorem dX5_changes_47 : decode cX5_changes 47 = .ok (.aload_n 0, 1) := by decide +kernel
theorem dX5_changes_48 : decode cX5_changes 48 = .ok (.dup, 1) := by decide +kernel
theorem dX5_changes_49 : decode cX5_changes 49 = .ok (.getfield 61, 3) := by decide +kernel
theorem dX5_changes_52 : decode cX5_changes 52 = .ok (.iconst 1, 1) := by decide +kernel
theorem dX5_changes_53 : decode cX5_changes 53 = .ok (.isub, 1) := by decide +kernel
theorem dX5_changes_54 : decode cX5_changes 54 = .ok (.putfield 61, 3) := by decide +kernel
theorem dX5_changes_57 : decode cX5_changes 57 = .ok (.iconst 0, 1) := by decide +kernel
theorem dX5_changes_58 : decode cX5_changes 58 = .ok (.istore_n 1, 1) := by decide +kernel
theorem dX5_changes_59 : decode cX5_changes 59 = .ok (.iload_n 1, 1) := by decide +kernel
theorem dX5_changes_60 : decode cX5_changes 60 = .ok (.sipush 345, 3) := by decide +kernel
theorem dX5_changes_63 : decode cX5_changes 63 = .ok (.if_icmp .ge 30, 3) := by decide +kernel
theorem dX5_changes_66 : decode cX5_changes 66 = .ok (.aload_n 0, 1) := by decide +kernel
theorem dX5_changes_67 : decode cX5_changes 67 = .ok (.getfield 13, 3) := by decide +kernel
theorem dX5_changes_70 : decode cX5_changes 70 = .ok (.sipush 345, 3) := by decide +kernel
theorem dX5_changes_73 : decode cX5_changes 73 = .ok (.aload_n 0, 1) := by decide +kernel
theorem dX5_changes_74 : decode cX5_changes 74 = .ok (.getfield 61, 3) := by decide +kernel
theorem dX5_changes_77 : decode cX5_changes 77 = .ok (.imul, 1) := by decide +kernel
theorem dX5_changes_78 : decode cX5_changes 78 = .ok (.iload_n 1, 1) := by decide +kernel
theorem dX5_changes_79 : decode cX5_changes 79 = .ok (.iadd, 1) := by decide +kernel
theorem dX5_changes_80 : decode cX5_changes 80 = .ok (.aload_n 0, 1) := by decide +kernel
theorem dX5_changes_81 : decode cX5_changes 81 = .ok (.getfield 7, 3) := by decide +kernel
theorem dX5_changes_84 : decode cX5_changes 84 = .ok (.iload_n 1, 1) := by decide +kernel
theorem dX5_changes_85 : decode cX5_changes 85 = .ok (.iaload, 1) := by decide +kernel
theorem dX5_changes_86 : decode cX5_changes 86 = .ok (.iastore, 1) := by decide +kernel
theorem dX5_changes_87 : decode cX5_changes 87 = .ok (.iinc 1 1, 3) := by decide +kernel
theorem dX5_changes_90 : decode cX5_changes 90 = .ok (.goto (-31), 3) := by decide +kernel
theorem dX5_changes_93 : decode cX5_changes 93 = .ok (.aload_n 0, 1) := by decide +kernel
theorem dX5_changes_94 : decode cX5_changes 94 = .ok (.dup, 1) := by decide +kernel
theorem dX5_changes_95 : decode cX5_changes 95 = .ok (.getfield 61, 3) := by decide +kernel
theorem dX5_changes_98 : decode cX5_changes 98 = .ok (.iconst 1, 1) := by decide +kernel
theorem dX5_changes_99 : decode cX5_changes 99 = .ok (.iadd, 1) := by decide +kernel
theorem dX5_changes_100 : decode cX5_changes 100 = .ok (.putfield 61, 3) := by decide +kernel
theorem dX5_changes_103 : decode cX5_changes 103 = .ok (.return_, 1) := by decide +kernel
theorem dX5_ofPurpose_0 : decode cX5_ofPurpose 0 = .ok (.aload_n 0, 1) := by decide +kernel
theorem dX5_ofPurpose_1 : decode cX5_ofPurpose 1 = .ok (.getfield 7, 3) := by decide +kernel
theorem dX5_ofPurpose_4 : decode cX5_ofPurpose 4 = .ok (.bipush 7, 2) := by decide +kernel
theorem dX5_ofPurpose_6 : decode cX5_ofPurpose 6 = .ok (.bipush 11, 2) := by decide +kernel
theorem dX5_ofPurpose_8 : decode cX5_ofPurpose 8 = .ok (.iload_n 1, 1) := by decide +kernel
theorem dX5_ofPurpose_9 : decode cX5_ofPurpose 9 = .ok (.imul, 1) := by decide +kernel
theorem dX5_ofPurpose_10 : decode cX5_ofPurpose 10 = .ok (.iadd, 1) := by decide +kernel
theorem dX5_ofPurpose_11 : decode cX5_ofPurpose 11 = .ok (.iload_n 2, 1) := by decide +kernel
theorem dX5_ofPurpose_12 : decode cX5_ofPurpose 12 = .ok (.iadd, 1) := by decide +kernel
theorem dX5_ofPurpose_13 : decode cX5_ofPurpose 13 = .ok (.iaload, 1) := by decide +kernel
theorem dX5_ofPurpose_14 : decode cX5_ofPurpose 14 = .ok (.ireturn, 1) := by decide +kernel
theorem dX5_putsPurpose_0 : decode cX5_putsPurpose 0 = .ok (.aload_n 0, 1) := by decide +kernel
theorem dX5_putsPurpose_1 : decode cX5_putsPurpose 1 = .ok (.getfield 7, 3) := by decide +kernel
theorem dX5_putsPurpose_4 : decode cX5_putsPurpose 4 = .ok (.bipush 7, 2) := by decide +kernel
theorem dX5_putsPurpose_6 : decode cX5_putsPurpose 6 = .ok (.bipush 11, 2) := by decide +kernel
theorem dX5_putsPurpose_8 : decode cX5_putsPurpose 8 = .ok (.iload_n 1, 1) := by decide +kernel
theorem dX5_putsPurpose_9 : decode cX5_putsPurpose 9 = .ok (.imul, 1) := by decide +kernel
theorem dX5_putsPurpose_10 : decode cX5_putsPurpose 10 = .ok (.iadd, 1) := by decide +kernel
theorem dX5_putsPurpose_11 : decode cX5_putsPurpose 11 = .ok (.iload_n 2, 1) := by decide +kernel
theorem dX5_putsPurpose_12 : decode cX5_putsPurpose 12 = .ok (.iadd, 1) := by decide +kernel
theorem dX5_putsPurpose_13 : decode cX5_putsPurpose 13 = .ok (.iload_n 3, 1) := by decide +kernel
theorem dX5_putsPurpose_14 : decode cX5_putsPurpose 14 = .ok (.iastore, 1) := by decide +kernel
theorem dX5_putsPurpose_15 : decode cX5_putsPurpose 15 = .ok (.return_, 1) := by decide +kernel
theorem dX5_adds_0 : decode cX5_adds 0 = .ok (.aload_n 0, 1) := by decide +kernel
theorem dX5_adds_1 : decode cX5_adds 1 = .ok (.getfield 7, 3) := by decide +kernel
theorem dX5_adds_4 : decode cX5_adds 4 = .ok (.bipush 7, 2) := by decide +kernel
theorem dX5_adds_6 : decode cX5_adds 6 = .ok (.bipush 11, 2) := by decide +kernel
theorem dX5_adds_8 : decode cX5_adds 8 = .ok (.iload_n 1, 1) := by decide +kernel
theorem dX5_adds_9 : decode cX5_adds 9 = .ok (.imul, 1) := by decide +kernel
theorem dX5_adds_10 : decode cX5_adds 10 = .ok (.iadd, 1) := by decide +kernel
theorem dX5_adds_11 : decode cX5_adds 11 = .ok (.iload_n 2, 1) := by decide +kernel
theorem dX5_adds_12 : decode cX5_adds 12 = .ok (.iadd, 1) := by decide +kernel
theorem dX5_adds_13 : decode cX5_adds 13 = .ok (.dup2, 1) := by decide +kernel
theorem dX5_adds_14 : decode cX5_adds 14 = .ok (.iaload, 1) := by decide +kernel
theorem dX5_adds_15 : decode cX5_adds 15 = .ok (.iload_n 3, 1) := by decide +kernel
theorem dX5_adds_16 : decode cX5_adds 16 = .ok (.iadd, 1) := by decide +kernel
theorem dX5_adds_17 : decode cX5_adds 17 = .ok (.iastore, 1) := by decide +kernel
theorem dX5_adds_18 : decode cX5_adds 18 = .ok (.return_, 1) := by decide +kernel
theorem dX5_ofDonor_0 : decode cX5_ofDonor 0 = .ok (.aload_n 0, 1) := by decide +kernel
theorem dX5_ofDonor_1 : decode cX5_ofDonor 1 = .ok (.getfield 7, 3) := by decide +kernel
theorem dX5_ofDonor_4 : decode cX5_ofDonor 4 = .ok (.bipush 73, 2) := by decide +kernel
theorem dX5_ofDonor_6 : decode cX5_ofDonor 6 = .ok (.bipush 7, 2) := by decide +kernel
theorem dX5_ofDonor_8 : decode cX5_ofDonor 8 = .ok (.iload_n 1, 1) := by decide +kernel
theorem dX5_ofDonor_9 : decode cX5_ofDonor 9 = .ok (.imul, 1) := by decide +kernel
theorem dX5_ofDonor_10 : decode cX5_ofDonor 10 = .ok (.iadd, 1) := by decide +kernel
theorem dX5_ofDonor_11 : decode cX5_ofDonor 11 = .ok (.iload_n 2, 1) := by decide +kernel
theorem dX5_ofDonor_12 : decode cX5_ofDonor 12 = .ok (.iadd, 1) := by decide +kernel
theorem dX5_ofDonor_13 : decode cX5_ofDonor 13 = .ok (.iaload, 1) := by decide +kernel
theorem dX5_ofDonor_14 : decode cX5_ofDonor 14 = .ok (.ireturn, 1) := by decide +kernel
theorem dX5_putsDonor_0 : decode cX5_putsDonor 0 = .ok (.aload_n 0, 1) := by decide +kernel
theorem dX5_putsDonor_1 : decode cX5_putsDonor 1 = .ok (.getfield 7, 3) := by decide +kernel
theorem dX5_putsDonor_4 : decode cX5_putsDonor 4 = .ok (.bipush 73, 2) := by decide +kernel
theorem dX5_putsDonor_6 : decode cX5_putsDonor 6 = .ok (.bipush 7, 2) := by decide +kernel
theorem dX5_putsDonor_8 : decode cX5_putsDonor 8 = .ok (.iload_n 1, 1) := by decide +kernel
theorem dX5_putsDonor_9 : decode cX5_putsDonor 9 = .ok (.imul, 1) := by decide +kernel
theorem dX5_putsDonor_10 : decode cX5_putsDonor 10 = .ok (.iadd, 1) := by decide +kernel
theorem dX5_putsDonor_11 : decode cX5_putsDonor 11 = .ok (.iload_n 2, 1) := by decide +kernel
theorem dX5_putsDonor_12 : decode cX5_putsDonor 12 = .ok (.iadd, 1) := by decide +kernel
theorem dX5_putsDonor_13 : decode cX5_putsDonor 13 = .ok (.iload_n 3, 1) := by decide +kernel
theorem dX5_putsDonor_14 : decode cX5_putsDonor 14 = .ok (.iastore, 1) := by decide +kernel
theorem dX5_putsDonor_15 : decode cX5_putsDonor 15 = .ok (.return_, 1) := by decide +kernel
theorem dX5_ofGift_0 : decode cX5_ofGift 0 = .ok (.aload_n 0, 1) := by decide +kernel
theorem dX5_ofGift_1 : decode cX5_ofGift 1 = .ok (.getfield 7, 3) := by decide +kernel
theorem dX5_ofGift_4 : decode cX5_ofGift 4 = .ok (.sipush 129, 3) := by decide +kernel
theorem dX5_ofGift_7 : decode cX5_ofGift 7 = .ok (.bipush 7, 2) := by decide +kernel
theorem dX5_ofGift_9 : decode cX5_ofGift 9 = .ok (.iload_n 1, 1) := by decide +kernel
theorem dX5_ofGift_10 : decode cX5_ofGift 10 = .ok (.imul, 1) := by decide +kernel
theorem dX5_ofGift_11 : decode cX5_ofGift 11 = .ok (.iadd, 1) := by decide +kernel
theorem dX5_ofGift_12 : decode cX5_ofGift 12 = .ok (.iload_n 2, 1) := by decide +kernel
theorem dX5_ofGift_13 : decode cX5_ofGift 13 = .ok (.iadd, 1) := by decide +kernel
theorem dX5_ofGift_14 : decode cX5_ofGift 14 = .ok (.iaload, 1) := by decide +kernel
theorem dX5_ofGift_15 : decode cX5_ofGift 15 = .ok (.ireturn, 1) := by decide +kernel
theorem dX5_ofPledge_0 : decode cX5_ofPledge 0 = .ok (.aload_n 0, 1) := by decide +kernel
theorem dX5_ofPledge_1 : decode cX5_ofPledge 1 = .ok (.getfield 7, 3) := by decide +kernel
theorem dX5_ofPledge_4 : decode cX5_ofPledge 4 = .ok (.sipush 297, 3) := by decide +kernel
theorem dX5_ofPledge_7 : decode cX5_ofPledge 7 = .ok (.bipush 8, 2) := by decide +kernel
theorem dX5_ofPledge_9 : decode cX5_ofPledge 9 = .ok (.iload_n 1, 1) := by decide +kernel
theorem dX5_ofPledge_10 : decode cX5_ofPledge 10 = .ok (.imul, 1) := by decide +kernel
theorem dX5_ofPledge_11 : decode cX5_ofPledge 11 = .ok (.iadd, 1) := by decide +kernel
theorem dX5_ofPledge_12 : decode cX5_ofPledge 12 = .ok (.iload_n 2, 1) := by decide +kernel
theorem dX5_ofPledge_13 : decode cX5_ofPledge 13 = .ok (.iadd, 1) := by decide +kernel
theorem dX5_ofPledge_14 : decode cX5_ofPledge 14 = .ok (.iaload, 1) := by decide +kernel
theorem dX5_ofPledge_15 : decode cX5_ofPledge 15 = .ok (.ireturn, 1) := by decide +kernel
theorem dX5_putsPledge_0 : decode cX5_putsPledge 0 = .ok (.aload_n 0, 1) := by decide +kernel
theorem dX5_putsPledge_1 : decode cX5_putsPledge 1 = .ok (.getfield 7, 3) := by decide +kernel
theorem dX5_putsPledge_4 : decode cX5_putsPledge 4 = .ok (.sipush 297, 3) := by decide +kernel
theorem dX5_putsPledge_7 : decode cX5_putsPledge 7 = .ok (.bipush 8, 2) := by decide +kernel
theorem dX5_putsPledge_9 : decode cX5_putsPledge 9 = .ok (.iload_n 1, 1) := by decide +kernel
theorem dX5_putsPledge_10 : decode cX5_putsPledge 10 = .ok (.imul, 1) := by decide +kernel
theorem dX5_putsPledge_11 : decode cX5_putsPledge 11 = .ok (.iadd, 1) := by decide +kernel
theorem dX5_putsPledge_12 : decode cX5_putsPledge 12 = .ok (.iload_n 2, 1) := by decide +kernel
theorem dX5_putsPledge_13 : decode cX5_putsPledge 13 = .ok (.iadd, 1) := by decide +kernel
theorem dX5_putsPledge_14 : decode cX5_putsPledge 14 = .ok (.iload_n 3, 1) := by decide +kernel
theorem dX5_putsPledge_15 : decode cX5_putsPledge 15 = .ok (.iastore, 1) := by decide +kernel
theorem dX5_putsPledge_16 : decode cX5_putsPledge 16 = .ok (.return_, 1) := by decide +kernel
theorem dX5_isPurpose_0 : decode cX5_isPurpose 0 = .ok (.iload_n 1, 1) := by decide +kernel
theorem dX5_isPurpose_1 : decode cX5_isPurpose 1 = .ok (.ifCond .lt 17, 3) := by decide +kernel
theorem dX5_isPurpose_4 : decode cX5_isPurpose 4 = .ok (.iload_n 1, 1) := by decide +kernel
theorem dX5_isPurpose_5 : decode cX5_isPurpose 5 = .ok (.aload_n 0, 1) := by decide +kernel
theorem dX5_isPurpose_6 : decode cX5_isPurpose 6 = .ok (.getfield 7, 3) := by decide +kernel
theorem dX5_isPurpose_9 : decode cX5_isPurpose 9 = .ok (.iconst 2, 1) := by decide +kernel
theorem dX5_isPurpose_10 : decode cX5_isPurpose 10 = .ok (.iaload, 1) := by decide +kernel
theorem dX5_isPurpose_11 : decode cX5_isPurpose 11 = .ok (.if_icmp .ge 7, 3) := by decide +kernel
theorem dX5_isPurpose_14 : decode cX5_isPurpose 14 = .ok (.iconst 1, 1) := by decide +kernel
theorem dX5_isPurpose_15 : decode cX5_isPurpose 15 = .ok (.goto 4, 3) := by decide +kernel
theorem dX5_isPurpose_18 : decode cX5_isPurpose 18 = .ok (.iconst 0, 1) := by decide +kernel
theorem dX5_isPurpose_19 : decode cX5_isPurpose 19 = .ok (.ireturn, 1) := by decide +kernel
theorem dX5_isClosed_0 : decode cX5_isClosed 0 = .ok (.aload_n 0, 1) := by decide +kernel
theorem dX5_isClosed_1 : decode cX5_isClosed 1 = .ok (.iload_n 1, 1) := by decide +kernel
theorem dX5_isClosed_2 : decode cX5_isClosed 2 = .ok (.bipush 9, 2) := by decide +kernel
theorem dX5_isClosed_4 : decode cX5_isClosed 4 = .ok (.invokevirtual 65, 3) := by decide +kernel
theorem dX5_isClosed_7 : decode cX5_isClosed 7 = .ok (.ifCond .lt 7, 3) := by decide +kernel
theorem dX5_isClosed_10 : decode cX5_isClosed 10 = .ok (.iconst 1, 1) := by decide +kernel
theorem dX5_isClosed_11 : decode cX5_isClosed 11 = .ok (.goto 4, 3) := by decide +kernel
theorem dX5_isClosed_14 : decode cX5_isClosed 14 = .ok (.iconst 0, 1) := by decide +kernel
theorem dX5_isClosed_15 : decode cX5_isClosed 15 = .ok (.ireturn, 1) := by decide +kernel
theorem dX5_isDonor_0 : decode cX5_isDonor 0 = .ok (.iload_n 1, 1) := by decide +kernel
theorem dX5_isDonor_1 : decode cX5_isDonor 1 = .ok (.ifCond .lt 17, 3) := by decide +kernel
theorem dX5_isDonor_4 : decode cX5_isDonor 4 = .ok (.iload_n 1, 1) := by decide +kernel
theorem dX5_isDonor_5 : decode cX5_isDonor 5 = .ok (.aload_n 0, 1) := by decide +kernel
theorem dX5_isDonor_6 : decode cX5_isDonor 6 = .ok (.getfield 7, 3) := by decide +kernel
theorem dX5_isDonor_9 : decode cX5_isDonor 9 = .ok (.iconst 3, 1) := by decide +kernel
theorem dX5_isDonor_10 : decode cX5_isDonor 10 = .ok (.iaload, 1) := by decide +kernel
theorem dX5_isDonor_11 : decode cX5_isDonor 11 = .ok (.if_icmp .ge 7, 3) := by decide +kernel
theorem dX5_isDonor_14 : decode cX5_isDonor 14 = .ok (.iconst 1, 1) := by decide +kernel
theorem dX5_isDonor_15 : decode cX5_isDonor 15 = .ok (.goto 4, 3) := by decide +kernel
theorem dX5_isDonor_18 : decode cX5_isDonor 18 = .ok (.iconst 0, 1) := by decide +kernel
theorem dX5_isDonor_19 : decode cX5_isDonor 19 = .ok (.ireturn, 1) := by decide +kernel
theorem dX5_isPledge_0 : decode cX5_isPledge 0 = .ok (.iload_n 1, 1) := by decide +kernel
theorem dX5_isPledge_1 : decode cX5_isPledge 1 = .ok (.ifCond .lt 17, 3) := by decide +kernel
theorem dX5_isPledge_4 : decode cX5_isPledge 4 = .ok (.iload_n 1, 1) := by decide +kernel
theorem dX5_isPledge_5 : decode cX5_isPledge 5 = .ok (.aload_n 0, 1) := by decide +kernel
theorem dX5_isPledge_6 : decode cX5_isPledge 6 = .ok (.getfield 7, 3) := by decide +kernel
theorem dX5_isPledge_9 : decode cX5_isPledge 9 = .ok (.iconst 5, 1) := by decide +kernel
theorem dX5_isPledge_10 : decode cX5_isPledge 10 = .ok (.iaload, 1) := by decide +kernel
theorem dX5_isPledge_11 : decode cX5_isPledge 11 = .ok (.if_icmp .ge 7, 3) := by decide +kernel
theorem dX5_isPledge_14 : decode cX5_isPledge 14 = .ok (.iconst 1, 1) := by decide +kernel
theorem dX5_isPledge_15 : decode cX5_isPledge 15 = .ok (.goto 4, 3) := by decide +kernel
theorem dX5_isPledge_18 : decode cX5_isPledge 18 = .ok (.iconst 0, 1) := by decide +kernel
theorem dX5_isPledge_19 : decode cX5_isPledge 19 = .ok (.ireturn, 1) := by decide +kernel
theorem dX5_home_0 : decode cX5_home 0 = .ok (.iload_n 1, 1) := by decide +kernel
theorem dX5_home_1 : decode cX5_home 1 = .ok (.istore_n 2, 1) := by decide +kernel
theorem dX5_home_2 : decode cX5_home 2 = .ok (.aload_n 0, 1) := by decide +kernel
theorem dX5_home_3 : decode cX5_home 3 = .ok (.iload_n 2, 1) := by decide +kernel
theorem dX5_home_4 : decode cX5_home 4 = .ok (.invokevirtual 69, 3) := by decide +kernel
theorem dX5_home_7 : decode cX5_home 7 = .ok (.ifCond .eq 14, 3) := by decide +kernel
theorem dX5_home_10 : decode cX5_home 10 = .ok (.aload_n 0, 1) := by decide +kernel
theorem dX5_home_11 : decode cX5_home 11 = .ok (.iload_n 2, 1) := by decide +kernel
theorem dX5_home_12 : decode cX5_home 12 = .ok (.bipush 9, 2) := by decide +kernel
theorem dX5_home_14 : decode cX5_home 14 = .ok (.invokevirtual 65, 3) := by decide +kernel
theorem dX5_home_17 : decode cX5_home 17 = .ok (.istore_n 2, 1) := by decide +kernel
theorem dX5_home_18 : decode cX5_home 18 = .ok (.goto (-16), 3) := by decide +kernel
theorem dX5_home_21 : decode cX5_home 21 = .ok (.iload_n 2, 1) := by decide +kernel
theorem dX5_home_22 : decode cX5_home 22 = .ok (.ireturn, 1) := by decide +kernel
theorem dX5_purpose_0 : decode cX5_purpose 0 = .ok (.aload_n 0, 1) := by decide +kernel
theorem dX5_purpose_1 : decode cX5_purpose 1 = .ok (.getfield 7, 3) := by decide +kernel
theorem dX5_purpose_4 : decode cX5_purpose 4 = .ok (.iconst 2, 1) := by decide +kernel
theorem dX5_purpose_5 : decode cX5_purpose 5 = .ok (.iaload, 1) := by decide +kernel
theorem dX5_purpose_6 : decode cX5_purpose 6 = .ok (.istore_n 1, 1) := by decide +kernel
theorem dX5_purpose_7 : decode cX5_purpose 7 = .ok (.iload_n 1, 1) := by decide +kernel
theorem dX5_purpose_8 : decode cX5_purpose 8 = .ok (.bipush 6, 2) := by decide +kernel
theorem dX5_purpose_10 : decode cX5_purpose 10 = .ok (.if_icmp .ne 6, 3) := by decide +kernel
theorem dX5_purpose_13 : decode cX5_purpose 13 = .ok (.bipush (-3), 2) := by decide +kernel
theorem dX5_purpose_15 : decode cX5_purpose 15 = .ok (.ireturn, 1) := by decide +kernel
theorem dX5_purpose_16 : decode cX5_purpose 16 = .ok (.aload_n 0, 1) := by decide +kernel
theorem dX5_purpose_17 : decode cX5_purpose 17 = .ok (.invokevirtual 73, 3) := by decide +kernel
theorem dX5_purpose_20 : decode cX5_purpose 20 = .ok (.iconst 0, 1) := by decide +kernel
theorem dX5_purpose_21 : decode cX5_purpose 21 = .ok (.istore_n 2, 1) := by decide +kernel
theorem dX5_purpose_22 : decode cX5_purpose 22 = .ok (.iload_n 2, 1) := by decide +kernel
theorem dX5_purpose_23 : decode cX5_purpose 23 = .ok (.bipush 11, 2) := by decide +kernel
theorem dX5_purpose_25 : decode cX5_purpose 25 = .ok (.if_icmp .ge 27, 3) := by decide +kernel
theorem dX5_purpose_28 : decode cX5_purpose 28 = .ok (.aload_n 0, 1) := by decide +kernel
theorem dX5_purpose_29 : decode cX5_purpose 29 = .ok (.iload_n 1, 1) := by decide +kernel
theorem dX5_purpose_30 : decode cX5_purpose 30 = .ok (.iload_n 2, 1) := by decide +kernel
theorem dX5_purpose_31 : decode cX5_purpose 31 = .ok (.iload_n 2, 1) := by decide +kernel
theorem dX5_purpose_32 : decode cX5_purpose 32 = .ok (.bipush 9, 2) := by decide +kernel
theorem dX5_purpose_34 : decode cX5_purpose 34 = .ok (.if_icmp .ne 8, 3) := by decide +kernel
theorem dX5_purpose_37 : decode cX5_purpose 37 = .ok (.bipush (-4), 2) := by decide +kernel
theorem dX5_purpose_39 : decode cX5_purpose 39 = .ok (.goto 4, 3) := by decide +kernel
theorem dX5_purpose_42 : decode cX5_purpose 42 = .ok (.iconst 0, 1) := by decide +kernel
theorem dX5_purpose_43 : decode cX5_purpose 43 = .ok (.invokevirtual 35, 3) := by decide +kernel
theorem dX5_purpose_46 : decode cX5_purpose 46 = .ok (.iinc 2 1, 3) := by decide +kernel
theorem dX5_purpose_49 : decode cX5_purpose 49 = .ok (.goto (-27), 3) := by decide +kernel
theorem dX5_purpose_52 : decode cX5_purpose 52 = .ok (.iconst 0, 1) := by decide +kernel
theorem dX5_purpose_53 : decode cX5_purpose 53 = .ok (.istore_n 2, 1) := by decide +kernel
theorem dX5_purpose_54 : decode cX5_purpose 54 = .ok (.iload_n 2, 1) := by decide +kernel
theorem dX5_purpose_55 : decode cX5_purpose 55 = .ok (.bipush 8, 2) := by decide +kernel
theorem dX5_purpose_57 : decode cX5_purpose 57 = .ok (.if_icmp .ge 19, 3) := by decide +kernel
theorem dX5_purpose_60 : decode cX5_purpose 60 = .ok (.aload_n 0, 1) := by decide +kernel
theorem dX5_purpose_61 : decode cX5_purpose 61 = .ok (.iload_n 2, 1) := by decide +kernel
theorem dX5_purpose_62 : decode cX5_purpose 62 = .ok (.iconst 1, 1) := by decide +kernel
theorem dX5_purpose_63 : decode cX5_purpose 63 = .ok (.iload_n 1, 1) := by decide +kernel
theorem dX5_purpose_64 : decode cX5_purpose 64 = .ok (.iadd, 1) := by decide +kernel
theorem dX5_purpose_65 : decode cX5_purpose 65 = .ok (.bipush (-4), 2) := by decide +kernel
theorem dX5_purpose_67 : decode cX5_purpose 67 = .ok (.invokevirtual 76, 3) := by decide +kernel
theorem dX5_purpose_70 : decode cX5_purpose 70 = .ok (.iinc 2 1, 3) := by decide +kernel
theorem dX5_purpose_73 : decode cX5_purpose 73 = .ok (.goto (-19), 3) := by decide +kernel
theorem dX5_purpose_76 : decode cX5_purpose 76 = .ok (.aload_n 0, 1) := by decide +kernel
theorem dX5_purpose_77 : decode cX5_purpose 77 = .ok (.getfield 7, 3) := by decide +kernel
theorem dX5_purpose_80 : decode cX5_purpose 80 = .ok (.iconst 2, 1) := by decide +kernel
theorem dX5_purpose_81 : decode cX5_purpose 81 = .ok (.dup2, 1) := by decide +kernel
theorem dX5_purpose_82 : decode cX5_purpose 82 = .ok (.iaload, 1) := by decide +kernel
theorem dX5_purpose_83 : decode cX5_purpose 83 = .ok (.iconst 1, 1) := by decide +kernel
theorem dX5_purpose_84 : decode cX5_purpose 84 = .ok (.iadd, 1) := by decide +kernel
theorem dX5_purpose_85 : decode cX5_purpose 85 = .ok (.iastore, 1) := by decide +kernel
theorem dX5_purpose_86 : decode cX5_purpose 86 = .ok (.iload_n 1, 1) := by decide +kernel
theorem dX5_purpose_87 : decode cX5_purpose 87 = .ok (.ireturn, 1) := by decide +kernel
theorem dX5_donor_0 : decode cX5_donor 0 = .ok (.aload_n 0, 1) := by decide +kernel
theorem dX5_donor_1 : decode cX5_donor 1 = .ok (.getfield 7, 3) := by decide +kernel
theorem dX5_donor_4 : decode cX5_donor 4 = .ok (.iconst 3, 1) := by decide +kernel
theorem dX5_donor_5 : decode cX5_donor 5 = .ok (.iaload, 1) := by decide +kernel
theorem dX5_donor_6 : decode cX5_donor 6 = .ok (.istore_n 1, 1) := by decide +kernel
theorem dX5_donor_7 : decode cX5_donor 7 = .ok (.iload_n 1, 1) := by decide +kernel
theorem dX5_donor_8 : decode cX5_donor 8 = .ok (.bipush 8, 2) := by decide +kernel
theorem dX5_donor_10 : decode cX5_donor 10 = .ok (.if_icmp .ne 6, 3) := by decide +kernel
theorem dX5_donor_13 : decode cX5_donor 13 = .ok (.bipush (-3), 2) := by decide +kernel
theorem dX5_donor_15 : decode cX5_donor 15 = .ok (.ireturn, 1) := by decide +kernel
theorem dX5_donor_16 : decode cX5_donor 16 = .ok (.aload_n 0, 1) := by decide +kernel
theorem dX5_donor_17 : decode cX5_donor 17 = .ok (.invokevirtual 73, 3) := by decide +kernel
theorem dX5_donor_20 : decode cX5_donor 20 = .ok (.aload_n 0, 1) := by decide +kernel
theorem dX5_donor_21 : decode cX5_donor 21 = .ok (.iload_n 1, 1) := by decide +kernel
theorem dX5_donor_22 : decode cX5_donor 22 = .ok (.iconst 0, 1) := by decide +kernel
theorem dX5_donor_23 : decode cX5_donor 23 = .ok (.iconst 0, 1) := by decide +kernel
theorem dX5_donor_24 : decode cX5_donor 24 = .ok (.invokevirtual 76, 3) := by decide +kernel
theorem dX5_donor_27 : decode cX5_donor 27 = .ok (.iconst 0, 1) := by decide +kernel
theorem dX5_donor_28 : decode cX5_donor 28 = .ok (.istore_n 2, 1) := by decide +kernel
theorem dX5_donor_29 : decode cX5_donor 29 = .ok (.iload_n 2, 1) := by decide +kernel
theorem dX5_donor_30 : decode cX5_donor 30 = .ok (.bipush 6, 2) := by decide +kernel
theorem dX5_donor_32 : decode cX5_donor 32 = .ok (.if_icmp .ge 19, 3) := by decide +kernel
theorem dX5_donor_35 : decode cX5_donor 35 = .ok (.aload_n 0, 1) := by decide +kernel
theorem dX5_donor_36 : decode cX5_donor 36 = .ok (.iload_n 1, 1) := by decide +kernel
theorem dX5_donor_37 : decode cX5_donor 37 = .ok (.iconst 1, 1) := by decide +kernel
theorem dX5_donor_38 : decode cX5_donor 38 = .ok (.iload_n 2, 1) := by decide +kernel
theorem dX5_donor_39 : decode cX5_donor 39 = .ok (.iadd, 1) := by decide +kernel
theorem dX5_donor_40 : decode cX5_donor 40 = .ok (.bipush (-4), 2) := by decide +kernel
theorem dX5_donor_42 : decode cX5_donor 42 = .ok (.invokevirtual 76, 3) := by decide +kernel
theorem dX5_donor_45 : decode cX5_donor 45 = .ok (.iinc 2 1, 3) := by decide +kernel
theorem dX5_donor_48 : decode cX5_donor 48 = .ok (.goto (-19), 3) := by decide +kernel
theorem dX5_donor_51 : decode cX5_donor 51 = .ok (.aload_n 0, 1) := by decide +kernel
theorem dX5_donor_52 : decode cX5_donor 52 = .ok (.getfield 7, 3) := by decide +kernel
theorem dX5_donor_55 : decode cX5_donor 55 = .ok (.iconst 3, 1) := by decide +kernel
theorem dX5_donor_56 : decode cX5_donor 56 = .ok (.dup2, 1) := by decide +kernel
theorem dX5_donor_57 : decode cX5_donor 57 = .ok (.iaload, 1) := by decide +kernel
theorem dX5_donor_58 : decode cX5_donor 58 = .ok (.iconst 1, 1) := by decide +kernel
theorem dX5_donor_59 : decode cX5_donor 59 = .ok (.iadd, 1) := by decide +kernel
theorem dX5_donor_60 : decode cX5_donor 60 = .ok (.iastore, 1) := by decide +kernel
theorem dX5_donor_61 : decode cX5_donor 61 = .ok (.iload_n 1, 1) := by decide +kernel
theorem dX5_donor_62 : decode cX5_donor 62 = .ok (.ireturn, 1) := by decide +kernel
theorem dX5_declare_0 : decode cX5_declare 0 = .ok (.aload_n 0, 1) := by decide +kernel
theorem dX5_declare_1 : decode cX5_declare 1 = .ok (.iload_n 1, 1) := by decide +kernel
theorem dX5_declare_2 : decode cX5_declare 2 = .ok (.invokevirtual 79, 3) := by decide +kernel
theorem dX5_declare_5 : decode cX5_declare 5 = .ok (.ifCond .eq 12, 3) := by decide +kernel
theorem dX5_declare_8 : decode cX5_declare 8 = .ok (.iload_n 2, 1) := by decide +kernel
theorem dX5_declare_9 : decode cX5_declare 9 = .ok (.iconst 0, 1) := by decide +kernel
theorem dX5_declare_10 : decode cX5_declare 10 = .ok (.iconst 1, 1) := by decide +kernel
theorem dX5_declare_11 : decode cX5_declare 11 = .ok (.invokestatic 82, 3) := by decide +kernel
theorem dX5_declare_14 : decode cX5_declare 14 = .ok (.ifCond .ne 5, 3) := by decide +kernel
theorem dX5_declare_17 : decode cX5_declare 17 = .ok (.iconst (-1), 1) := by decide +kernel
theorem dX5_declare_18 : decode cX5_declare 18 = .ok (.ireturn, 1) := by decide +kernel
theorem dX5_declare_19 : decode cX5_declare 19 = .ok (.aload_n 0, 1) := by decide +kernel
theorem dX5_declare_20 : decode cX5_declare 20 = .ok (.invokevirtual 73, 3) := by decide +kernel
theorem dX5_declare_23 : decode cX5_declare 23 = .ok (.aload_n 0, 1) := by decide +kernel
theorem dX5_declare_24 : decode cX5_declare 24 = .ok (.iload_n 1, 1) := by decide +kernel
theorem dX5_declare_25 : decode cX5_declare 25 = .ok (.iconst 0, 1) := by decide +kernel
theorem dX5_declare_26 : decode cX5_declare 26 = .ok (.invokevirtual 86, 3) := by decide +kernel
theorem dX5_declare_29 : decode cX5_declare 29 = .ok (.istore_n 3, 1) := by decide +kernel
theorem dX5_declare_30 : decode cX5_declare 30 = .ok (.aload_n 0, 1) := by decide +kernel
theorem dX5_declare_31 : decode cX5_declare 31 = .ok (.iload_n 1, 1) := by decide +kernel
theorem dX5_declare_32 : decode cX5_declare 32 = .ok (.iconst 0, 1) := by decide +kernel
theorem dX5_declare_33 : decode cX5_declare 33 = .ok (.iload_n 2, 1) := by decide +kernel
theorem dX5_declare_34 : decode cX5_declare 34 = .ok (.invokevirtual 76, 3) := by decide +kernel
theorem dX5_declare_37 : decode cX5_declare 37 = .ok (.iload_n 3, 1) := by decide +kernel
theorem dX5_declare_38 : decode cX5_declare 38 = .ok (.ireturn, 1) := by decide +kernel
theorem dX5_gives_0 : decode cX5_gives 0 = .ok (.aload_n 0, 1) := by decide +kernel
theorem dX5_gives_1 : decode cX5_gives 1 = .ok (.getfield 7, 3) := by decide +kernel
theorem dX5_gives_4 : decode cX5_gives 4 = .ok (.iconst 4, 1) := by decide +kernel
theorem dX5_gives_5 : decode cX5_gives 5 = .ok (.iaload, 1) := by decide +kernel
theorem dX5_gives_6 : decode cX5_gives 6 = .ok (.istore 5, 2) := by decide +kernel
theorem dX5_gives_8 : decode cX5_gives 8 = .ok (.sipush 129, 3) := by decide +kernel
theorem dX5_gives_11 : decode cX5_gives 11 = .ok (.bipush 7, 2) := by decide +kernel
theorem dX5_gives_13 : decode cX5_gives 13 = .ok (.iload 5, 2) := by decide +kernel
theorem dX5_gives_15 : decode cX5_gives 15 = .ok (.imul, 1) := by decide +kernel
theorem dX5_gives_16 : decode cX5_gives 16 = .ok (.iadd, 1) := by decide +kernel
theorem dX5_gives_17 : decode cX5_gives 17 = .ok (.istore 6, 2) := by decide +kernel
theorem dX5_gives_19 : decode cX5_gives 19 = .ok (.aload_n 0, 1) := by decide +kernel
theorem dX5_gives_20 : decode cX5_gives 20 = .ok (.getfield 7, 3) := by decide +kernel
theorem dX5_gives_23 : decode cX5_gives 23 = .ok (.iload 6, 2) := by decide +kernel
theorem dX5_gives_25 : decode cX5_gives 25 = .ok (.iconst 0, 1) := by decide +kernel
theorem dX5_gives_26 : decode cX5_gives 26 = .ok (.iadd, 1) := by decide +kernel
theorem dX5_gives_27 : decode cX5_gives 27 = .ok (.iload_n 1, 1) := by decide +kernel
theorem dX5_gives_28 : decode cX5_gives 28 = .ok (.iastore, 1) := by decide +kernel
theorem dX5_gives_29 : decode cX5_gives 29 = .ok (.aload_n 0, 1) := by decide +kernel
theorem dX5_gives_30 : decode cX5_gives 30 = .ok (.getfield 7, 3) := by decide +kernel
theorem dX5_gives_33 : decode cX5_gives 33 = .ok (.iload 6, 2) := by decide +kernel
theorem dX5_gives_35 : decode cX5_gives 35 = .ok (.iconst 1, 1) := by decide +kernel
theorem dX5_gives_36 : decode cX5_gives 36 = .ok (.iadd, 1) := by decide +kernel
theorem dX5_gives_37 : decode cX5_gives 37 = .ok (.iload_n 2, 1) := by decide +kernel
theorem dX5_gives_38 : decode cX5_gives 38 = .ok (.iastore, 1) := by decide +kernel
theorem dX5_gives_39 : decode cX5_gives 39 = .ok (.aload_n 0, 1) := by decide +kernel
theorem dX5_gives_40 : decode cX5_gives 40 = .ok (.getfield 7, 3) := by decide +kernel
theorem dX5_gives_43 : decode cX5_gives 43 = .ok (.iload 6, 2) := by decide +kernel
theorem dX5_gives_45 : decode cX5_gives 45 = .ok (.iconst 2, 1) := by decide +kernel
theorem dX5_gives_46 : decode cX5_gives 46 = .ok (.iadd, 1) := by decide +kernel
theorem dX5_gives_47 : decode cX5_gives 47 = .ok (.iload_n 3, 1) := by decide +kernel
theorem dX5_gives_48 : decode cX5_gives 48 = .ok (.iastore, 1) := by decide +kernel
theorem dX5_gives_49 : decode cX5_gives 49 = .ok (.aload_n 0, 1) := by decide +kernel
theorem dX5_gives_50 : decode cX5_gives 50 = .ok (.getfield 7, 3) := by decide +kernel
theorem dX5_gives_53 : decode cX5_gives 53 = .ok (.iload 6, 2) := by decide +kernel
theorem dX5_gives_55 : decode cX5_gives 55 = .ok (.iconst 3, 1) := by decide +kernel
theorem dX5_gives_56 : decode cX5_gives 56 = .ok (.iadd, 1) := by decide +kernel
theorem dX5_gives_57 : decode cX5_gives 57 = .ok (.aload_n 0, 1) := by decide +kernel
theorem dX5_gives_58 : decode cX5_gives 58 = .ok (.getfield 7, 3) := by decide +kernel
theorem dX5_gives_61 : decode cX5_gives 61 = .ok (.bipush 6, 2) := by decide +kernel
theorem dX5_gives_63 : decode cX5_gives 63 = .ok (.iaload, 1) := by decide +kernel
theorem dX5_gives_64 : decode cX5_gives 64 = .ok (.iastore, 1) := by decide +kernel
theorem dX5_gives_65 : decode cX5_gives 65 = .ok (.aload_n 0, 1) := by decide +kernel
theorem dX5_gives_66 : decode cX5_gives 66 = .ok (.getfield 7, 3) := by decide +kernel
theorem dX5_gives_69 : decode cX5_gives 69 = .ok (.iload 6, 2) := by decide +kernel
theorem dX5_gives_71 : decode cX5_gives 71 = .ok (.iconst 4, 1) := by decide +kernel
theorem dX5_gives_72 : decode cX5_gives 72 = .ok (.iadd, 1) := by decide +kernel
theorem dX5_gives_73 : decode cX5_gives 73 = .ok (.iconst 0, 1) := by decide +kernel
theorem dX5_gives_74 : decode cX5_gives 74 = .ok (.iastore, 1) := by decide +kernel
theorem dX5_gives_75 : decode cX5_gives 75 = .ok (.aload_n 0, 1) := by decide +kernel
theorem dX5_gives_76 : decode cX5_gives 76 = .ok (.getfield 7, 3) := by decide +kernel
theorem dX5_gives_79 : decode cX5_gives 79 = .ok (.iload 6, 2) := by decide +kernel
theorem dX5_gives_81 : decode cX5_gives 81 = .ok (.iconst 5, 1) := by decide +kernel
theorem dX5_gives_82 : decode cX5_gives 82 = .ok (.iadd, 1) := by decide +kernel
theorem dX5_gives_83 : decode cX5_gives 83 = .ok (.iconst 0, 1) := by decide +kernel
theorem dX5_gives_84 : decode cX5_gives 84 = .ok (.iastore, 1) := by decide +kernel
theorem dX5_gives_85 : decode cX5_gives 85 = .ok (.aload_n 0, 1) := by decide +kernel
theorem dX5_gives_86 : decode cX5_gives 86 = .ok (.getfield 7, 3) := by decide +kernel
theorem dX5_gives_89 : decode cX5_gives 89 = .ok (.iload 6, 2) := by decide +kernel
theorem dX5_gives_91 : decode cX5_gives 91 = .ok (.bipush 6, 2) := by decide +kernel
theorem dX5_gives_93 : decode cX5_gives 93 = .ok (.iadd, 1) := by decide +kernel
theorem dX5_gives_94 : decode cX5_gives 94 = .ok (.iload 4, 2) := by decide +kernel
theorem dX5_gives_96 : decode cX5_gives 96 = .ok (.iastore, 1) := by decide +kernel
theorem dX5_gives_97 : decode cX5_gives 97 = .ok (.aload_n 0, 1) := by decide +kernel
theorem dX5_gives_98 : decode cX5_gives 98 = .ok (.getfield 7, 3) := by decide +kernel
theorem dX5_gives_101 : decode cX5_gives 101 = .ok (.iconst 4, 1) := by decide +kernel
theorem dX5_gives_102 : decode cX5_gives 102 = .ok (.dup2, 1) := by decide +kernel
theorem dX5_gives_103 : decode cX5_gives 103 = .ok (.iaload, 1) := by decide +kernel
theorem dX5_gives_104 : decode cX5_gives 104 = .ok (.iconst 1, 1) := by decide +kernel
theorem dX5_gives_105 : decode cX5_gives 105 = .ok (.iadd, 1) := by decide +kernel
theorem dX5_gives_106 : decode cX5_gives 106 = .ok (.iastore, 1) := by decide +kernel
theorem dX5_gives_107 : decode cX5_gives 107 = .ok (.aload_n 0, 1) := by decide +kernel
theorem dX5_gives_108 : decode cX5_gives 108 = .ok (.iload_n 2, 1) := by decide +kernel
theorem dX5_gives_109 : decode cX5_gives 109 = .ok (.iconst 0, 1) := by decide +kernel
theorem dX5_gives_110 : decode cX5_gives 110 = .ok (.iload_n 3, 1) := by decide +kernel
theorem dX5_gives_111 : decode cX5_gives 111 = .ok (.invokevirtual 89, 3) := by decide +kernel
theorem dX5_gives_114 : decode cX5_gives 114 = .ok (.aload_n 0, 1) := by decide +kernel
theorem dX5_gives_115 : decode cX5_gives 115 = .ok (.iload_n 2, 1) := by decide +kernel
theorem dX5_gives_116 : decode cX5_gives 116 = .ok (.iconst 1, 1) := by decide +kernel
theorem dX5_gives_117 : decode cX5_gives 117 = .ok (.iload_n 3, 1) := by decide +kernel
theorem dX5_gives_118 : decode cX5_gives 118 = .ok (.invokevirtual 89, 3) := by decide +kernel
theorem dX5_gives_121 : decode cX5_gives 121 = .ok (.iload 5, 2) := by decide +kernel
theorem dX5_gives_123 : decode cX5_gives 123 = .ok (.ireturn, 1) := by decide +kernel
theorem dX5_give_0 : decode cX5_give 0 = .ok (.aload_n 0, 1) := by decide +kernel
theorem dX5_give_1 : decode cX5_give 1 = .ok (.iload_n 1, 1) := by decide +kernel
theorem dX5_give_2 : decode cX5_give 2 = .ok (.invokevirtual 79, 3) := by decide +kernel
theorem dX5_give_5 : decode cX5_give 5 = .ok (.ifCond .eq 22, 3) := by decide +kernel
theorem dX5_give_8 : decode cX5_give 8 = .ok (.aload_n 0, 1) := by decide +kernel
theorem dX5_give_9 : decode cX5_give 9 = .ok (.iload_n 2, 1) := by decide +kernel
theorem dX5_give_10 : decode cX5_give 10 = .ok (.invokevirtual 92, 3) := by decide +kernel
theorem dX5_give_13 : decode cX5_give 13 = .ok (.ifCond .eq 14, 3) := by decide +kernel
theorem dX5_give_16 : decode cX5_give 16 = .ok (.iload_n 3, 1) := by decide +kernel
theorem dX5_give_17 : decode cX5_give 17 = .ok (.iconst 1, 1) := by decide +kernel
theorem dX5_give_18 : decode cX5_give 18 = .ok (.sipush 9999, 3) := by decide +kernel
theorem dX5_give_21 : decode cX5_give 21 = .ok (.invokestatic 82, 3) := by decide +kernel
theorem dX5_give_24 : decode cX5_give 24 = .ok (.ifCond .ne 5, 3) := by decide +kernel
theorem dX5_give_27 : decode cX5_give 27 = .ok (.iconst (-1), 1) := by decide +kernel
theorem dX5_give_28 : decode cX5_give 28 = .ok (.ireturn, 1) := by decide +kernel
theorem dX5_give_29 : decode cX5_give 29 = .ok (.aload_n 0, 1) := by decide +kernel
theorem dX5_give_30 : decode cX5_give 30 = .ok (.iload_n 2, 1) := by decide +kernel
theorem dX5_give_31 : decode cX5_give 31 = .ok (.invokevirtual 69, 3) := by decide +kernel
theorem dX5_give_34 : decode cX5_give 34 = .ok (.ifCond .eq 6, 3) := by decide +kernel
theorem dX5_give_37 : decode cX5_give 37 = .ok (.bipush (-2), 2) := by decide +kernel
theorem dX5_give_39 : decode cX5_give 39 = .ok (.ireturn, 1) := by decide +kernel
theorem dX5_give_40 : decode cX5_give 40 = .ok (.aload_n 0, 1) := by decide +kernel
theorem dX5_give_41 : decode cX5_give 41 = .ok (.getfield 7, 3) := by decide +kernel
theorem dX5_give_44 : decode cX5_give 44 = .ok (.iconst 4, 1) := by decide +kernel
theorem dX5_give_45 : decode cX5_give 45 = .ok (.iaload, 1) := by decide +kernel
theorem dX5_give_46 : decode cX5_give 46 = .ok (.bipush 24, 2) := by decide +kernel
theorem dX5_give_48 : decode cX5_give 48 = .ok (.if_icmp .ne 6, 3) := by decide +kernel
theorem dX5_give_51 : decode cX5_give 51 = .ok (.bipush (-3), 2) := by decide +kernel
theorem dX5_give_53 : decode cX5_give 53 = .ok (.ireturn, 1) := by decide +kernel
theorem dX5_give_54 : decode cX5_give 54 = .ok (.aload_n 0, 1) := by decide +kernel
theorem dX5_give_55 : decode cX5_give 55 = .ok (.invokevirtual 73, 3) := by decide +kernel
theorem dX5_give_58 : decode cX5_give 58 = .ok (.aload_n 0, 1) := by decide +kernel
theorem dX5_give_59 : decode cX5_give 59 = .ok (.iload_n 1, 1) := by decide +kernel
theorem dX5_give_60 : decode cX5_give 60 = .ok (.iload_n 2, 1) := by decide +kernel
theorem dX5_give_61 : decode cX5_give 61 = .ok (.iload_n 3, 1) := by decide +kernel
theorem dX5_give_62 : decode cX5_give 62 = .ok (.bipush (-4), 2) := by decide +kernel
theorem dX5_give_64 : decode cX5_give 64 = .ok (.invokevirtual 95, 3) := by decide +kernel
theorem dX5_give_67 : decode cX5_give 67 = .ok (.ireturn, 1) := by decide +kernel
theorem dX5_pledge_0 : decode cX5_pledge 0 = .ok (.aload_n 0, 1) := by decide +kernel
theorem dX5_pledge_1 : decode cX5_pledge 1 = .ok (.iload_n 1, 1) := by decide +kernel
theorem dX5_pledge_2 : decode cX5_pledge 2 = .ok (.invokevirtual 79, 3) := by decide +kernel
theorem dX5_pledge_5 : decode cX5_pledge 5 = .ok (.ifCond .eq 33, 3) := by decide +kernel
theorem dX5_pledge_8 : decode cX5_pledge 8 = .ok (.aload_n 0, 1) := by decide +kernel
theorem dX5_pledge_9 : decode cX5_pledge 9 = .ok (.iload_n 2, 1) := by decide +kernel
theorem dX5_pledge_10 : decode cX5_pledge 10 = .ok (.invokevirtual 92, 3) := by decide +kernel
theorem dX5_pledge_13 : decode cX5_pledge 13 = .ok (.ifCond .eq 25, 3) := by decide +kernel
theorem dX5_pledge_16 : decode cX5_pledge 16 = .ok (.iload_n 3, 1) := by decide +kernel
theorem dX5_pledge_17 : decode cX5_pledge 17 = .ok (.iconst 1, 1) := by decide +kernel
theorem dX5_pledge_18 : decode cX5_pledge 18 = .ok (.sipush 999, 3) := by decide +kernel
theorem dX5_pledge_21 : decode cX5_pledge 21 = .ok (.invokestatic 82, 3) := by decide +kernel
theorem dX5_pledge_24 : decode cX5_pledge 24 = .ok (.ifCond .eq 14, 3) := by decide +kernel
theorem dX5_pledge_27 : decode cX5_pledge 27 = .ok (.iload 4, 2) := by decide +kernel
theorem dX5_pledge_29 : decode cX5_pledge 29 = .ok (.iconst 1, 1) := by decide +kernel
theorem dX5_pledge_30 : decode cX5_pledge 30 = .ok (.bipush 60, 2) := by decide +kernel
theorem dX5_pledge_32 : decode cX5_pledge 32 = .ok (.invokestatic 82, 3) := by decide +kernel
theorem dX5_pledge_35 : decode cX5_pledge 35 = .ok (.ifCond .ne 5, 3) := by decide +kernel
theorem dX5_pledge_38 : decode cX5_pledge 38 = .ok (.iconst (-1), 1) := by decide +kernel
theorem dX5_pledge_39 : decode cX5_pledge 39 = .ok (.ireturn, 1) := by decide +kernel
theorem dX5_pledge_40 : decode cX5_pledge 40 = .ok (.aload_n 0, 1) := by decide +kernel
theorem dX5_pledge_41 : decode cX5_pledge 41 = .ok (.iload_n 2, 1) := by decide +kernel
theorem dX5_pledge_42 : decode cX5_pledge 42 = .ok (.invokevirtual 69, 3) := by decide +kernel
theorem dX5_pledge_45 : decode cX5_pledge 45 = .ok (.ifCond .eq 6, 3) := by decide +kernel
theorem dX5_pledge_48 : decode cX5_pledge 48 = .ok (.bipush (-2), 2) := by decide +kernel
theorem dX5_pledge_50 : decode cX5_pledge 50 = .ok (.ireturn, 1) := by decide +kernel
theorem dX5_pledge_51 : decode cX5_pledge 51 = .ok (.aload_n 0, 1) := by decide +kernel
theorem dX5_pledge_52 : decode cX5_pledge 52 = .ok (.getfield 7, 3) := by decide +kernel
theorem dX5_pledge_55 : decode cX5_pledge 55 = .ok (.iconst 5, 1) := by decide +kernel
theorem dX5_pledge_56 : decode cX5_pledge 56 = .ok (.iaload, 1) := by decide +kernel
theorem dX5_pledge_57 : decode cX5_pledge 57 = .ok (.istore 5, 2) := by decide +kernel
theorem dX5_pledge_59 : decode cX5_pledge 59 = .ok (.iload 5, 2) := by decide +kernel
theorem dX5_pledge_61 : decode cX5_pledge 61 = .ok (.bipush 6, 2) := by decide +kernel
theorem dX5_pledge_63 : decode cX5_pledge 63 = .ok (.if_icmp .ne 6, 3) := by decide +kernel
theorem dX5_pledge_66 : decode cX5_pledge 66 = .ok (.bipush (-3), 2) := by decide +kernel
theorem dX5_pledge_68 : decode cX5_pledge 68 = .ok (.ireturn, 1) := by decide +kernel
theorem dX5_pledge_69 : decode cX5_pledge 69 = .ok (.aload_n 0, 1) := by decide +kernel
theorem dX5_pledge_70 : decode cX5_pledge 70 = .ok (.invokevirtual 73, 3) := by decide +kernel
theorem dX5_pledge_73 : decode cX5_pledge 73 = .ok (.iconst 0, 1) := by decide +kernel
theorem dX5_pledge_74 : decode cX5_pledge 74 = .ok (.istore 6, 2) := by decide +kernel
theorem dX5_pledge_76 : decode cX5_pledge 76 = .ok (.iload 6, 2) := by decide +kernel
theorem dX5_pledge_78 : decode cX5_pledge 78 = .ok (.bipush 8, 2) := by decide +kernel
theorem dX5_pledge_80 : decode cX5_pledge 80 = .ok (.if_icmp .ge 18, 3) := by decide +kernel
theorem dX5_pledge_83 : decode cX5_pledge 83 = .ok (.aload_n 0, 1) := by decide +kernel
theorem dX5_pledge_84 : decode cX5_pledge 84 = .ok (.iload 5, 2) := by decide +kernel
theorem dX5_pledge_86 : decode cX5_pledge 86 = .ok (.iload 6, 2) := by decide +kernel
theorem dX5_pledge_88 : decode cX5_pledge 88 = .ok (.iconst 0, 1) := by decide +kernel
theorem dX5_pledge_89 : decode cX5_pledge 89 = .ok (.invokevirtual 99, 3) := by decide +kernel
theorem dX5_pledge_92 : decode cX5_pledge 92 = .ok (.iinc 6 1, 3) := by decide +kernel
theorem dX5_pledge_95 : decode cX5_pledge 95 = .ok (.goto (-19), 3) := by decide +kernel
theorem dX5_pledge_98 : decode cX5_pledge 98 = .ok (.aload_n 0, 1) := by decide +kernel
theorem dX5_pledge_99 : decode cX5_pledge 99 = .ok (.iload 5, 2) := by decide +kernel
theorem dX5_pledge_101 : decode cX5_pledge 101 = .ok (.iconst 0, 1) := by decide +kernel
theorem dX5_pledge_102 : decode cX5_pledge 102 = .ok (.iload_n 1, 1) := by decide +kernel
theorem dX5_pledge_103 : decode cX5_pledge 103 = .ok (.invokevirtual 99, 3) := by decide +kernel
theorem dX5_pledge_106 : decode cX5_pledge 106 = .ok (.aload_n 0, 1) := by decide +kernel
theorem dX5_pledge_107 : decode cX5_pledge 107 = .ok (.iload 5, 2) := by decide +kernel
theorem dX5_pledge_109 : decode cX5_pledge 109 = .ok (.iconst 1, 1) := by decide +kernel
theorem dX5_pledge_110 : decode cX5_pledge 110 = .ok (.iload_n 2, 1) := by decide +kernel
theorem dX5_pledge_111 : decode cX5_pledge 111 = .ok (.invokevirtual 99, 3) := by decide +kernel
theorem dX5_pledge_114 : decode cX5_pledge 114 = .ok (.aload_n 0, 1) := by decide +kernel
theorem dX5_pledge_115 : decode cX5_pledge 115 = .ok (.iload 5, 2) := by decide +kernel
theorem dX5_pledge_117 : decode cX5_pledge 117 = .ok (.iconst 2, 1) := by decide +kernel
theorem dX5_pledge_118 : decode cX5_pledge 118 = .ok (.iload_n 3, 1) := by decide +kernel
theorem dX5_pledge_119 : decode cX5_pledge 119 = .ok (.invokevirtual 99, 3) := by decide +kernel
theorem dX5_pledge_122 : decode cX5_pledge 122 = .ok (.aload_n 0, 1) := by decide +kernel
theorem dX5_pledge_123 : decode cX5_pledge 123 = .ok (.iload 5, 2) := by decide +kernel
theorem dX5_pledge_125 : decode cX5_pledge 125 = .ok (.iconst 3, 1) := by decide +kernel
theorem dX5_pledge_126 : decode cX5_pledge 126 = .ok (.iload 4, 2) := by decide +kernel
theorem dX5_pledge_128 : decode cX5_pledge 128 = .ok (.invokevirtual 99, 3) := by decide +kernel
theorem dX5_pledge_131 : decode cX5_pledge 131 = .ok (.aload_n 0, 1) := by decide +kernel
theorem dX5_pledge_132 : decode cX5_pledge 132 = .ok (.getfield 7, 3) := by decide +kernel
theorem dX5_pledge_135 : decode cX5_pledge 135 = .ok (.iconst 5, 1) := by decide +kernel
theorem dX5_pledge_136 : decode cX5_pledge 136 = .ok (.dup2, 1) := by decide +kernel
theorem dX5_pledge_137 : decode cX5_pledge 137 = .ok (.iaload, 1) := by decide +kernel
theorem dX5_pledge_138 : decode cX5_pledge 138 = .ok (.iconst 1, 1) := by decide +kernel
theorem dX5_pledge_139 : decode cX5_pledge 139 = .ok (.iadd, 1) := by decide +kernel
theorem dX5_pledge_140 : decode cX5_pledge 140 = .ok (.iastore, 1) := by decide +kernel
theorem dX5_pledge_141 : decode cX5_pledge 141 = .ok (.iload 5, 2) := by decide +kernel
theorem dX5_pledge_143 : decode cX5_pledge 143 = .ok (.ireturn, 1) := by decide +kernel
theorem dX5_miss_0 : decode cX5_miss 0 = .ok (.aload_n 0, 1) := by decide +kernel
theorem dX5_miss_1 : decode cX5_miss 1 = .ok (.iload_n 1, 1) := by decide +kernel
theorem dX5_miss_2 : decode cX5_miss 2 = .ok (.invokevirtual 102, 3) := by decide +kernel
theorem dX5_miss_5 : decode cX5_miss 5 = .ok (.ifCond .ne 5, 3) := by decide +kernel
theorem dX5_miss_8 : decode cX5_miss 8 = .ok (.iconst (-1), 1) := by decide +kernel
theorem dX5_miss_9 : decode cX5_miss 9 = .ok (.ireturn, 1) := by decide +kernel
theorem dX5_miss_10 : decode cX5_miss 10 = .ok (.aload_n 0, 1) := by decide +kernel
theorem dX5_miss_11 : decode cX5_miss 11 = .ok (.iload_n 1, 1) := by decide +kernel
theorem dX5_miss_12 : decode cX5_miss 12 = .ok (.iconst 5, 1) := by decide +kernel
theorem dX5_miss_13 : decode cX5_miss 13 = .ok (.invokevirtual 105, 3) := by decide +kernel
theorem dX5_miss_16 : decode cX5_miss 16 = .ok (.ifCond .gt 14, 3) := by decide +kernel
theorem dX5_miss_19 : decode cX5_miss 19 = .ok (.aload_n 0, 1) := by decide +kernel
theorem dX5_miss_20 : decode cX5_miss 20 = .ok (.iload_n 1, 1) := by decide +kernel
theorem dX5_miss_21 : decode cX5_miss 21 = .ok (.bipush 7, 2) := by decide +kernel
theorem dX5_miss_23 : decode cX5_miss 23 = .ok (.invokevirtual 105, 3) := by decide +kernel
theorem dX5_miss_26 : decode cX5_miss 26 = .ok (.iconst 1, 1) := by decide +kernel
theorem dX5_miss_27 : decode cX5_miss 27 = .ok (.if_icmp .ne 6, 3) := by decide +kernel
theorem dX5_miss_30 : decode cX5_miss 30 = .ok (.bipush (-2), 2) := by decide +kernel
theorem dX5_miss_32 : decode cX5_miss 32 = .ok (.ireturn, 1) := by decide +kernel
theorem dX5_miss_33 : decode cX5_miss 33 = .ok (.aload_n 0, 1) := by decide +kernel
theorem dX5_miss_34 : decode cX5_miss 34 = .ok (.invokevirtual 73, 3) := by decide +kernel
theorem dX5_miss_37 : decode cX5_miss 37 = .ok (.aload_n 0, 1) := by decide +kernel
theorem dX5_miss_38 : decode cX5_miss 38 = .ok (.iload_n 1, 1) := by decide +kernel
theorem dX5_miss_39 : decode cX5_miss 39 = .ok (.bipush 7, 2) := by decide +kernel
theorem dX5_miss_41 : decode cX5_miss 41 = .ok (.iconst 1, 1) := by decide +kernel
theorem dX5_miss_42 : decode cX5_miss 42 = .ok (.invokevirtual 99, 3) := by decide +kernel
theorem dX5_miss_45 : decode cX5_miss 45 = .ok (.aload_n 0, 1) := by decide +kernel
theorem dX5_miss_46 : decode cX5_miss 46 = .ok (.iload_n 1, 1) := by decide +kernel
theorem dX5_miss_47 : decode cX5_miss 47 = .ok (.iconst 4, 1) := by decide +kernel
theorem dX5_miss_48 : decode cX5_miss 48 = .ok (.invokevirtual 105, 3) := by decide +kernel
theorem dX5_miss_51 : decode cX5_miss 51 = .ok (.ireturn, 1) := by decide +kernel
theorem dX5_ends_0 : decode cX5_ends 0 = .ok (.aload_n 0, 1) := by decide +kernel
theorem dX5_ends_1 : decode cX5_ends 1 = .ok (.iload_n 1, 1) := by decide +kernel
theorem dX5_ends_2 : decode cX5_ends 2 = .ok (.iconst 5, 1) := by decide +kernel
theorem dX5_ends_3 : decode cX5_ends 3 = .ok (.iload_n 2, 1) := by decide +kernel
theorem dX5_ends_4 : decode cX5_ends 4 = .ok (.invokevirtual 99, 3) := by decide +kernel
theorem dX5_ends_7 : decode cX5_ends 7 = .ok (.aload_n 0, 1) := by decide +kernel
theorem dX5_ends_8 : decode cX5_ends 8 = .ok (.iload_n 1, 1) := by decide +kernel
theorem dX5_ends_9 : decode cX5_ends 9 = .ok (.bipush 7, 2) := by decide +kernel
theorem dX5_ends_11 : decode cX5_ends 11 = .ok (.iconst 0, 1) := by decide +kernel
theorem dX5_ends_12 : decode cX5_ends 12 = .ok (.invokevirtual 99, 3) := by decide +kernel
theorem dX5_ends_15 : decode cX5_ends 15 = .ok (.return_, 1) := by decide +kernel
theorem dX5_stop_0 : decode cX5_stop 0 = .ok (.aload_n 0, 1) := by decide +kernel
theorem dX5_stop_1 : decode cX5_stop 1 = .ok (.iload_n 1, 1) := by decide +kernel
theorem dX5_stop_2 : decode cX5_stop 2 = .ok (.invokevirtual 102, 3) := by decide +kernel
theorem dX5_stop_5 : decode cX5_stop 5 = .ok (.ifCond .ne 5, 3) := by decide +kernel
theorem dX5_stop_8 : decode cX5_stop 8 = .ok (.iconst (-1), 1) := by decide +kernel
theorem dX5_stop_9 : decode cX5_stop 9 = .ok (.ireturn, 1) := by decide +kernel
theorem dX5_stop_10 : decode cX5_stop 10 = .ok (.aload_n 0, 1) := by decide +kernel
theorem dX5_stop_11 : decode cX5_stop 11 = .ok (.iload_n 1, 1) := by decide +kernel
theorem dX5_stop_12 : decode cX5_stop 12 = .ok (.iconst 5, 1) := by decide +kernel
theorem dX5_stop_13 : decode cX5_stop 13 = .ok (.invokevirtual 105, 3) := by decide +kernel
theorem dX5_stop_16 : decode cX5_stop 16 = .ok (.ifCond .le 6, 3) := by decide +kernel
theorem dX5_stop_19 : decode cX5_stop 19 = .ok (.bipush (-2), 2) := by decide +kernel
theorem dX5_stop_21 : decode cX5_stop 21 = .ok (.ireturn, 1) := by decide +kernel
theorem dX5_stop_22 : decode cX5_stop 22 = .ok (.aload_n 0, 1) := by decide +kernel
theorem dX5_stop_23 : decode cX5_stop 23 = .ok (.invokevirtual 73, 3) := by decide +kernel
theorem dX5_stop_26 : decode cX5_stop 26 = .ok (.aload_n 0, 1) := by decide +kernel
theorem dX5_stop_27 : decode cX5_stop 27 = .ok (.iload_n 1, 1) := by decide +kernel
theorem dX5_stop_28 : decode cX5_stop 28 = .ok (.iconst 2, 1) := by decide +kernel
theorem dX5_stop_29 : decode cX5_stop 29 = .ok (.invokevirtual 108, 3) := by decide +kernel
theorem dX5_stop_32 : decode cX5_stop 32 = .ok (.aload_n 0, 1) := by decide +kernel
theorem dX5_stop_33 : decode cX5_stop 33 = .ok (.iload_n 1, 1) := by decide +kernel
theorem dX5_stop_34 : decode cX5_stop 34 = .ok (.iconst 3, 1) := by decide +kernel
theorem dX5_stop_35 : decode cX5_stop 35 = .ok (.invokevirtual 105, 3) := by decide +kernel
theorem dX5_stop_38 : decode cX5_stop 38 = .ok (.ireturn, 1) := by decide +kernel
theorem dX5_tax_0 : decode cX5_tax 0 = .ok (.iload_n 0, 1) := by decide +kernel
theorem dX5_tax_1 : decode cX5_tax 1 = .ok (.iconst 4, 1) := by decide +kernel
theorem dX5_tax_2 : decode cX5_tax 2 = .ok (.idiv, 1) := by decide +kernel
theorem dX5_tax_3 : decode cX5_tax 3 = .ok (.ireturn, 1) := by decide +kernel
theorem dX5_canClaim_0 : decode cX5_canClaim 0 = .ok (.aload_n 0, 1) := by decide +kernel
theorem dX5_canClaim_1 : decode cX5_canClaim 1 = .ok (.iload_n 1, 1) := by decide +kernel
theorem dX5_canClaim_2 : decode cX5_canClaim 2 = .ok (.iconst 0, 1) := by decide +kernel
theorem dX5_canClaim_3 : decode cX5_canClaim 3 = .ok (.invokevirtual 112, 3) := by decide +kernel
theorem dX5_canClaim_6 : decode cX5_canClaim 6 = .ok (.istore_n 2, 1) := by decide +kernel
theorem dX5_canClaim_7 : decode cX5_canClaim 7 = .ok (.aload_n 0, 1) := by decide +kernel
theorem dX5_canClaim_8 : decode cX5_canClaim 8 = .ok (.iload_n 1, 1) := by decide +kernel
theorem dX5_canClaim_9 : decode cX5_canClaim 9 = .ok (.iconst 3, 1) := by decide +kernel
theorem dX5_canClaim_10 : decode cX5_canClaim 10 = .ok (.invokevirtual 112, 3) := by decide +kernel
theorem dX5_canClaim_13 : decode cX5_canClaim 13 = .ok (.bipush 12, 2) := by decide +kernel
theorem dX5_canClaim_15 : decode cX5_canClaim 15 = .ok (.idiv, 1) := by decide +kernel
theorem dX5_canClaim_16 : decode cX5_canClaim 16 = .ok (.istore_n 3, 1) := by decide +kernel
theorem dX5_canClaim_17 : decode cX5_canClaim 17 = .ok (.aload_n 0, 1) := by decide +kernel
theorem dX5_canClaim_18 : decode cX5_canClaim 18 = .ok (.iload_n 1, 1) := by decide +kernel
theorem dX5_canClaim_19 : decode cX5_canClaim 19 = .ok (.iconst 4, 1) := by decide +kernel
theorem dX5_canClaim_20 : decode cX5_canClaim 20 = .ok (.invokevirtual 112, 3) := by decide +kernel
theorem dX5_canClaim_23 : decode cX5_canClaim 23 = .ok (.aload_n 0, 1) := by decide +kernel
theorem dX5_canClaim_24 : decode cX5_canClaim 24 = .ok (.iload_n 1, 1) := by decide +kernel
theorem dX5_canClaim_25 : decode cX5_canClaim 25 = .ok (.iconst 5, 1) := by decide +kernel
theorem dX5_canClaim_26 : decode cX5_canClaim 26 = .ok (.invokevirtual 112, 3) := by decide +kernel
theorem dX5_canClaim_29 : decode cX5_canClaim 29 = .ok (.iadd, 1) := by decide +kernel
theorem dX5_canClaim_30 : decode cX5_canClaim 30 = .ok (.ifCond .gt 31, 3) := by decide +kernel
theorem dX5_canClaim_33 : decode cX5_canClaim 33 = .ok (.aload_n 0, 1) := by decide +kernel
theorem dX5_canClaim_34 : decode cX5_canClaim 34 = .ok (.iload_n 2, 1) := by decide +kernel
theorem dX5_canClaim_35 : decode cX5_canClaim 35 = .ok (.iconst 0, 1) := by decide +kernel
theorem dX5_canClaim_36 : decode cX5_canClaim 36 = .ok (.invokevirtual 86, 3) := by decide +kernel
theorem dX5_canClaim_39 : decode cX5_canClaim 39 = .ok (.ifCond .eq 22, 3) := by decide +kernel
theorem dX5_canClaim_42 : decode cX5_canClaim 42 = .ok (.aload_n 0, 1) := by decide +kernel
theorem dX5_canClaim_43 : decode cX5_canClaim 43 = .ok (.getfield 7, 3) := by decide +kernel
theorem dX5_canClaim_46 : decode cX5_canClaim 46 = .ok (.bipush 6, 2) := by decide +kernel
theorem dX5_canClaim_48 : decode cX5_canClaim 48 = .ok (.iaload, 1) := by decide +kernel
theorem dX5_canClaim_49 : decode cX5_canClaim 49 = .ok (.aload_n 0, 1) := by decide +kernel
theorem dX5_canClaim_50 : decode cX5_canClaim 50 = .ok (.iload_n 1, 1) := by decide +kernel
theorem dX5_canClaim_51 : decode cX5_canClaim 51 = .ok (.iconst 3, 1) := by decide +kernel
theorem dX5_canClaim_52 : decode cX5_canClaim 52 = .ok (.invokevirtual 112, 3) := by decide +kernel
theorem dX5_canClaim_55 : decode cX5_canClaim 55 = .ok (.isub, 1) := by decide +kernel
theorem dX5_canClaim_56 : decode cX5_canClaim 56 = .ok (.bipush 47, 2) := by decide +kernel
theorem dX5_canClaim_58 : decode cX5_canClaim 58 = .ok (.if_icmp .le 5, 3) := by decide +kernel
theorem dX5_canClaim_61 : decode cX5_canClaim 61 = .ok (.iconst 0, 1) := by decide +kernel
theorem dX5_canClaim_62 : decode cX5_canClaim 62 = .ok (.ireturn, 1) := by decide +kernel
theorem dX5_canClaim_63 : decode cX5_canClaim 63 = .ok (.aload_n 0, 1) := by decide +kernel
theorem dX5_canClaim_64 : decode cX5_canClaim 64 = .ok (.iload_n 1, 1) := by decide +kernel
theorem dX5_canClaim_65 : decode cX5_canClaim 65 = .ok (.iconst 2, 1) := by decide +kernel
theorem dX5_canClaim_66 : decode cX5_canClaim 66 = .ok (.invokevirtual 112, 3) := by decide +kernel
theorem dX5_canClaim_69 : decode cX5_canClaim 69 = .ok (.istore 4, 2) := by decide +kernel
theorem dX5_canClaim_71 : decode cX5_canClaim 71 = .ok (.iconst 0, 1) := by decide +kernel
theorem dX5_canClaim_72 : decode cX5_canClaim 72 = .ok (.istore 5, 2) := by decide +kernel
theorem dX5_canClaim_74 : decode cX5_canClaim 74 = .ok (.iload 5, 2) := by decide +kernel
theorem dX5_canClaim_76 : decode cX5_canClaim 76 = .ok (.aload_n 0, 1) := by decide +kernel
theorem dX5_canClaim_77 : decode cX5_canClaim 77 = .ok (.getfield 7, 3) := by decide +kernel
theorem dX5_canClaim_80 : decode cX5_canClaim 80 = .ok (.iconst 4, 1) := by decide +kernel
theorem dX5_canClaim_81 : decode cX5_canClaim 81 = .ok (.iaload, 1) := by decide +kernel
theorem dX5_canClaim_82 : decode cX5_canClaim 82 = .ok (.if_icmp .ge 83, 3) := by decide +kernel
theorem dX5_canClaim_85 : decode cX5_canClaim 85 = .ok (.aload_n 0, 1) := by decide +kernel
theorem dX5_canClaim_86 : decode cX5_canClaim 86 = .ok (.iload 5, 2) := by decide +kernel
theorem dX5_canClaim_88 : decode cX5_canClaim 88 = .ok (.iconst 0, 1) := by decide +kernel
theorem dX5_canClaim_89 : decode cX5_canClaim 89 = .ok (.invokevirtual 112, 3) := by decide +kernel
theorem dX5_canClaim_92 : decode cX5_canClaim 92 = .ok (.iload_n 2, 1) := by decide +kernel
theorem dX5_canClaim_93 : decode cX5_canClaim 93 = .ok (.if_icmp .ne 42, 3) := by decide +kernel
theorem dX5_canClaim_96 : decode cX5_canClaim 96 = .ok (.aload_n 0, 1) := by decide +kernel
theorem dX5_canClaim_97 : decode cX5_canClaim 97 = .ok (.iload 5, 2) := by decide +kernel
theorem dX5_canClaim_99 : decode cX5_canClaim 99 = .ok (.iconst 3, 1) := by decide +kernel
theorem dX5_canClaim_100 : decode cX5_canClaim 100 = .ok (.invokevirtual 112, 3) := by decide +kernel
theorem dX5_canClaim_103 : decode cX5_canClaim 103 = .ok (.bipush 12, 2) := by decide +kernel
theorem dX5_canClaim_105 : decode cX5_canClaim 105 = .ok (.idiv, 1) := by decide +kernel
theorem dX5_canClaim_106 : decode cX5_canClaim 106 = .ok (.iload_n 3, 1) := by decide +kernel
theorem dX5_canClaim_107 : decode cX5_canClaim 107 = .ok (.if_icmp .ne 28, 3) := by decide +kernel
theorem dX5_canClaim_110 : decode cX5_canClaim 110 = .ok (.aload_n 0, 1) := by decide +kernel
theorem dX5_canClaim_111 : decode cX5_canClaim 111 = .ok (.iload 5, 2) := by decide +kernel
theorem dX5_canClaim_113 : decode cX5_canClaim 113 = .ok (.iconst 4, 1) := by decide +kernel
theorem dX5_canClaim_114 : decode cX5_canClaim 114 = .ok (.invokevirtual 112, 3) := by decide +kernel
theorem dX5_canClaim_117 : decode cX5_canClaim 117 = .ok (.iconst 1, 1) := by decide +kernel
theorem dX5_canClaim_118 : decode cX5_canClaim 118 = .ok (.if_icmp .ne 17, 3) := by decide +kernel
theorem dX5_canClaim_121 : decode cX5_canClaim 121 = .ok (.aload_n 0, 1) := by decide +kernel
theorem dX5_canClaim_122 : decode cX5_canClaim 122 = .ok (.iload 5, 2) := by decide +kernel
theorem dX5_canClaim_124 : decode cX5_canClaim 124 = .ok (.iconst 5, 1) := by decide +kernel
theorem dX5_canClaim_125 : decode cX5_canClaim 125 = .ok (.invokevirtual 112, 3) := by decide +kernel
theorem dX5_canClaim_128 : decode cX5_canClaim 128 = .ok (.ifCond .ne 7, 3) := by decide +kernel
theorem dX5_canClaim_131 : decode cX5_canClaim 131 = .ok (.iconst 1, 1) := by decide +kernel
theorem dX5_canClaim_132 : decode cX5_canClaim 132 = .ok (.goto 4, 3) := by decide +kernel
theorem dX5_canClaim_135 : decode cX5_canClaim 135 = .ok (.iconst 0, 1) := by decide +kernel
theorem dX5_canClaim_136 : decode cX5_canClaim 136 = .ok (.istore 6, 2) := by decide +kernel
theorem dX5_canClaim_138 : decode cX5_canClaim 138 = .ok (.iload 4, 2) := by decide +kernel
theorem dX5_canClaim_140 : decode cX5_canClaim 140 = .ok (.iload 6, 2) := by decide +kernel
theorem dX5_canClaim_142 : decode cX5_canClaim 142 = .ok (.ifCond .eq 13, 3) := by decide +kernel
theorem dX5_canClaim_145 : decode cX5_canClaim 145 = .ok (.aload_n 0, 1) := by decide +kernel
theorem dX5_canClaim_146 : decode cX5_canClaim 146 = .ok (.iload 5, 2) := by decide +kernel
theorem dX5_canClaim_148 : decode cX5_canClaim 148 = .ok (.iconst 2, 1) := by decide +kernel
theorem dX5_canClaim_149 : decode cX5_canClaim 149 = .ok (.invokevirtual 112, 3) := by decide +kernel
theorem dX5_canClaim_152 : decode cX5_canClaim 152 = .ok (.goto 4, 3) := by decide +kernel
theorem dX5_canClaim_155 : decode cX5_canClaim 155 = .ok (.iconst 0, 1) := by decide +kernel
theorem dX5_canClaim_156 : decode cX5_canClaim 156 = .ok (.iadd, 1) := by decide +kernel
theorem dX5_canClaim_157 : decode cX5_canClaim 157 = .ok (.istore 4, 2) := by decide +kernel
theorem dX5_canClaim_159 : decode cX5_canClaim 159 = .ok (.iinc 5 1, 3) := by decide +kernel
theorem dX5_canClaim_162 : decode cX5_canClaim 162 = .ok (.goto (-88), 3) := by decide +kernel
theorem dX5_canClaim_165 : decode cX5_canClaim 165 = .ok (.iload 4, 2) := by decide +kernel
theorem dX5_canClaim_167 : decode cX5_canClaim 167 = .ok (.aload_n 0, 1) := by decide +kernel
theorem dX5_canClaim_168 : decode cX5_canClaim 168 = .ok (.getfield 7, 3) := by decide +kernel
theorem dX5_canClaim_171 : decode cX5_canClaim 171 = .ok (.iconst 1, 1) := by decide +kernel
theorem dX5_canClaim_172 : decode cX5_canClaim 172 = .ok (.iaload, 1) := by decide +kernel
theorem dX5_canClaim_173 : decode cX5_canClaim 173 = .ok (.if_icmp .gt 7, 3) := by decide +kernel
theorem dX5_canClaim_176 : decode cX5_canClaim 176 = .ok (.iconst 1, 1) := by decide +kernel
theorem dX5_canClaim_177 : decode cX5_canClaim 177 = .ok (.goto 4, 3) := by decide +kernel
theorem dX5_canClaim_180 : decode cX5_canClaim 180 = .ok (.iconst 0, 1) := by decide +kernel
theorem dX5_canClaim_181 : decode cX5_canClaim 181 = .ok (.ireturn, 1) := by decide +kernel
theorem dX5_claims_0 : decode cX5_claims 0 = .ok (.iconst 0, 1) := by decide +kernel
theorem dX5_claims_1 : decode cX5_claims 1 = .ok (.istore_n 2, 1) := by decide +kernel
theorem dX5_claims_2 : decode cX5_claims 2 = .ok (.aload_n 0, 1) := by decide +kernel
theorem dX5_claims_3 : decode cX5_claims 3 = .ok (.iconst 0, 1) := by decide +kernel
theorem dX5_claims_4 : decode cX5_claims 4 = .ok (.putfield 115, 3) := by decide +kernel
theorem dX5_claims_7 : decode cX5_claims 7 = .ok (.iconst 0, 1) := by decide +kernel
theorem dX5_claims_8 : decode cX5_claims 8 = .ok (.istore_n 3, 1) := by decide +kernel
theorem dX5_claims_9 : decode cX5_claims 9 = .ok (.iload_n 3, 1) := by decide +kernel
theorem dX5_claims_10 : decode cX5_claims 10 = .ok (.aload_n 0, 1) := by decide +kernel
theorem dX5_claims_11 : decode cX5_claims 11 = .ok (.getfield 7, 3) := by decide +kernel
theorem dX5_claims_14 : decode cX5_claims 14 = .ok (.iconst 4, 1) := by decide +kernel
theorem dX5_claims_15 : decode cX5_claims 15 = .ok (.iaload, 1) := by decide +kernel
theorem dX5_claims_16 : decode cX5_claims 16 = .ok (.if_icmp .ge 103, 3) := by decide +kernel
theorem dX5_claims_19 : decode cX5_claims 19 = .ok (.iload_n 1, 1) := by decide +kernel
theorem dX5_claims_20 : decode cX5_claims 20 = .ok (.ifCond .lt 13, 3) := by decide +kernel
theorem dX5_claims_23 : decode cX5_claims 23 = .ok (.aload_n 0, 1) := by decide +kernel
theorem dX5_claims_24 : decode cX5_claims 24 = .ok (.iload_n 3, 1) := by decide +kernel
theorem dX5_claims_25 : decode cX5_claims 25 = .ok (.iconst 0, 1) := by decide +kernel
theorem dX5_claims_26 : decode cX5_claims 26 = .ok (.invokevirtual 112, 3) := by decide +kernel
theorem dX5_claims_29 : decode cX5_claims 29 = .ok (.iload_n 1, 1) := by decide +kernel
theorem dX5_claims_30 : decode cX5_claims 30 = .ok (.if_icmp .ne 83, 3) := by decide +kernel
theorem dX5_claims_33 : decode cX5_claims 33 = .ok (.aload_n 0, 1) := by decide +kernel
theorem dX5_claims_34 : decode cX5_claims 34 = .ok (.iload_n 3, 1) := by decide +kernel
theorem dX5_claims_35 : decode cX5_claims 35 = .ok (.invokevirtual 118, 3) := by decide +kernel
theorem dX5_claims_38 : decode cX5_claims 38 = .ok (.ifCond .eq 75, 3) := by decide +kernel
theorem dX5_claims_41 : decode cX5_claims 41 = .ok (.aload_n 0, 1) := by decide +kernel
theorem dX5_claims_42 : decode cX5_claims 42 = .ok (.getfield 7, 3) := by decide +kernel
theorem dX5_claims_45 : decode cX5_claims 45 = .ok (.sipush 129, 3) := by decide +kernel
theorem dX5_claims_48 : decode cX5_claims 48 = .ok (.bipush 7, 2) := by decide +kernel
theorem dX5_claims_50 : decode cX5_claims 50 = .ok (.iload_n 3, 1) := by decide +kernel
theorem dX5_claims_51 : decode cX5_claims 51 = .ok (.imul, 1) := by decide +kernel
theorem dX5_claims_52 : decode cX5_claims 52 = .ok (.iadd, 1) := by decide +kernel
theorem dX5_claims_53 : decode cX5_claims 53 = .ok (.iconst 4, 1) := by decide +kernel
theorem dX5_claims_54 : decode cX5_claims 54 = .ok (.iadd, 1) := by decide +kernel
theorem dX5_claims_55 : decode cX5_claims 55 = .ok (.iconst 1, 1) := by decide +kernel
theorem dX5_claims_56 : decode cX5_claims 56 = .ok (.iastore, 1) := by decide +kernel
theorem dX5_claims_57 : decode cX5_claims 57 = .ok (.aload_n 0, 1) := by decide +kernel
theorem dX5_claims_58 : decode cX5_claims 58 = .ok (.iload_n 3, 1) := by decide +kernel
theorem dX5_claims_59 : decode cX5_claims 59 = .ok (.iconst 2, 1) := by decide +kernel
theorem dX5_claims_60 : decode cX5_claims 60 = .ok (.invokevirtual 112, 3) := by decide +kernel
theorem dX5_claims_63 : decode cX5_claims 63 = .ok (.invokestatic 121, 3) := by decide +kernel
theorem dX5_claims_66 : decode cX5_claims 66 = .ok (.istore 4, 2) := by decide +kernel
theorem dX5_claims_68 : decode cX5_claims 68 = .ok (.aload_n 0, 1) := by decide +kernel
theorem dX5_claims_69 : decode cX5_claims 69 = .ok (.aload_n 0, 1) := by decide +kernel
theorem dX5_claims_70 : decode cX5_claims 70 = .ok (.iload_n 3, 1) := by decide +kernel
theorem dX5_claims_71 : decode cX5_claims 71 = .ok (.iconst 1, 1) := by decide +kernel
theorem dX5_claims_72 : decode cX5_claims 72 = .ok (.invokevirtual 112, 3) := by decide +kernel
theorem dX5_claims_75 : decode cX5_claims 75 = .ok (.invokevirtual 125, 3) := by decide +kernel
theorem dX5_claims_78 : decode cX5_claims 78 = .ok (.istore 5, 2) := by decide +kernel
theorem dX5_claims_80 : decode cX5_claims 80 = .ok (.aload_n 0, 1) := by decide +kernel
theorem dX5_claims_81 : decode cX5_claims 81 = .ok (.iload 5, 2) := by decide +kernel
theorem dX5_claims_83 : decode cX5_claims 83 = .ok (.iconst 0, 1) := by decide +kernel
theorem dX5_claims_84 : decode cX5_claims 84 = .ok (.iload 4, 2) := by decide +kernel
theorem dX5_claims_86 : decode cX5_claims 86 = .ok (.invokevirtual 89, 3) := by decide +kernel
theorem dX5_claims_89 : decode cX5_claims 89 = .ok (.aload_n 0, 1) := by decide +kernel
theorem dX5_claims_90 : decode cX5_claims 90 = .ok (.iload 5, 2) := by decide +kernel
theorem dX5_claims_92 : decode cX5_claims 92 = .ok (.iconst 2, 1) := by decide +kernel
theorem dX5_claims_93 : decode cX5_claims 93 = .ok (.iload 4, 2) := by decide +kernel
theorem dX5_claims_95 : decode cX5_claims 95 = .ok (.invokevirtual 89, 3) := by decide +kernel
theorem dX5_claims_98 : decode cX5_claims 98 = .ok (.iload_n 2, 1) := by decide +kernel
theorem dX5_claims_99 : decode cX5_claims 99 = .ok (.iload 4, 2) := by decide +kernel
theorem dX5_claims_101 : decode cX5_claims 101 = .ok (.iadd, 1) := by decide +kernel
theorem dX5_claims_102 : decode cX5_claims 102 = .ok (.istore_n 2, 1) := by decide +kernel
theorem dX5_claims_103 : decode cX5_claims 103 = .ok (.aload_n 0, 1) := by decide +kernel
theorem dX5_claims_104 : decode cX5_claims 104 = .ok (.dup, 1) := by decide +kernel
theorem dX5_claims_105 : decode cX5_claims 105 = .ok (.getfield 115, 3) := by decide +kernel
theorem dX5_claims_108 : decode cX5_claims 108 = .ok (.iconst 1, 1) := by decide +kernel
theorem dX5_claims_109 : decode cX5_claims 109 = .ok (.iadd, 1) := by decide +kernel
theorem dX5_claims_110 : decode cX5_claims 110 = .ok (.putfield 115, 3) := by decide +kernel
theorem dX5_claims_113 : decode cX5_claims 113 = .ok (.iinc 3 1, 3) := by decide +kernel
theorem dX5_claims_116 : decode cX5_claims 116 = .ok (.goto (-107), 3) := by decide +kernel
theorem dX5_claims_119 : decode cX5_claims 119 = .ok (.iload_n 2, 1) := by decide +kernel
theorem dX5_claims_120 : decode cX5_claims 120 = .ok (.ireturn, 1) := by decide +kernel
theorem dX5_wouldClaim_0 : decode cX5_wouldClaim 0 = .ok (.aload_n 0, 1) := by decide +kernel
theorem dX5_wouldClaim_1 : decode cX5_wouldClaim 1 = .ok (.iload_n 1, 1) := by decide +kernel
theorem dX5_wouldClaim_2 : decode cX5_wouldClaim 2 = .ok (.invokevirtual 79, 3) := by decide +kernel
theorem dX5_wouldClaim_5 : decode cX5_wouldClaim 5 = .ok (.ifCond .ne 10, 3) := by decide +kernel
theorem dX5_wouldClaim_8 : decode cX5_wouldClaim 8 = .ok (.iload_n 1, 1) := by decide +kernel
theorem dX5_wouldClaim_9 : decode cX5_wouldClaim 9 = .ok (.iconst (-1), 1) := by decide +kernel
theorem dX5_wouldClaim_10 : decode cX5_wouldClaim 10 = .ok (.if_icmp .eq 5, 3) := by decide +kernel
theorem dX5_wouldClaim_13 : decode cX5_wouldClaim 13 = .ok (.iconst (-1), 1) := by decide +kernel
theorem dX5_wouldClaim_14 : decode cX5_wouldClaim 14 = .ok (.ireturn, 1) := by decide +kernel
theorem dX5_wouldClaim_15 : decode cX5_wouldClaim 15 = .ok (.aload_n 0, 1) := by decide +kernel
theorem dX5_wouldClaim_16 : decode cX5_wouldClaim 16 = .ok (.getfield 7, 3) := by decide +kernel
theorem dX5_wouldClaim_19 : decode cX5_wouldClaim 19 = .ok (.aload_n 0, 1) := by decide +kernel
theorem dX5_wouldClaim_20 : decode cX5_wouldClaim 20 = .ok (.getfield 19, 3) := by decide +kernel
theorem dX5_wouldClaim_23 : decode cX5_wouldClaim 23 = .ok (.invokestatic 128, 3) := by decide +kernel
theorem dX5_wouldClaim_26 : decode cX5_wouldClaim 26 = .ok (.aload_n 0, 1) := by decide +kernel
theorem dX5_wouldClaim_27 : decode cX5_wouldClaim 27 = .ok (.iload_n 1, 1) := by decide +kernel
theorem dX5_wouldClaim_28 : decode cX5_wouldClaim 28 = .ok (.invokevirtual 132, 3) := by decide +kernel
theorem dX5_wouldClaim_31 : decode cX5_wouldClaim 31 = .ok (.istore_n 2, 1) := by decide +kernel
theorem dX5_wouldClaim_32 : decode cX5_wouldClaim 32 = .ok (.aload_n 0, 1) := by decide +kernel
theorem dX5_wouldClaim_33 : decode cX5_wouldClaim 33 = .ok (.getfield 19, 3) := by decide +kernel
theorem dX5_wouldClaim_36 : decode cX5_wouldClaim 36 = .ok (.aload_n 0, 1) := by decide +kernel
theorem dX5_wouldClaim_37 : decode cX5_wouldClaim 37 = .ok (.getfield 7, 3) := by decide +kernel
theorem dX5_wouldClaim_40 : decode cX5_wouldClaim 40 = .ok (.invokestatic 128, 3) := by decide +kernel
theorem dX5_wouldClaim_43 : decode cX5_wouldClaim 43 = .ok (.iload_n 2, 1) := by decide +kernel
theorem dX5_wouldClaim_44 : decode cX5_wouldClaim 44 = .ok (.ireturn, 1) := by decide +kernel
theorem dX5_claim_0 : decode cX5_claim 0 = .ok (.aload_n 0, 1) := by decide +kernel
theorem dX5_claim_1 : decode cX5_claim 1 = .ok (.getfield 7, 3) := by decide +kernel
theorem dX5_claim_4 : decode cX5_claim 4 = .ok (.aload_n 0, 1) := by decide +kernel
theorem dX5_claim_5 : decode cX5_claim 5 = .ok (.getfield 19, 3) := by decide +kernel
theorem dX5_claim_8 : decode cX5_claim 8 = .ok (.invokestatic 128, 3) := by decide +kernel
theorem dX5_claim_11 : decode cX5_claim 11 = .ok (.aload_n 0, 1) := by decide +kernel
theorem dX5_claim_12 : decode cX5_claim 12 = .ok (.iconst (-1), 1) := by decide +kernel
theorem dX5_claim_13 : decode cX5_claim 13 = .ok (.invokevirtual 132, 3) := by decide +kernel
theorem dX5_claim_16 : decode cX5_claim 16 = .ok (.pop, 1) := by decide +kernel
theorem dX5_claim_17 : decode cX5_claim 17 = .ok (.aload_n 0, 1) := by decide +kernel
theorem dX5_claim_18 : decode cX5_claim 18 = .ok (.getfield 19, 3) := by decide +kernel
theorem dX5_claim_21 : decode cX5_claim 21 = .ok (.aload_n 0, 1) := by decide +kernel
theorem dX5_claim_22 : decode cX5_claim 22 = .ok (.getfield 7, 3) := by decide +kernel
theorem dX5_claim_25 : decode cX5_claim 25 = .ok (.invokestatic 128, 3) := by decide +kernel
theorem dX5_claim_28 : decode cX5_claim 28 = .ok (.aload_n 0, 1) := by decide +kernel
theorem dX5_claim_29 : decode cX5_claim 29 = .ok (.getfield 115, 3) := by decide +kernel
theorem dX5_claim_32 : decode cX5_claim 32 = .ok (.ifCond .ne 6, 3) := by decide +kernel
theorem dX5_claim_35 : decode cX5_claim 35 = .ok (.bipush (-2), 2) := by decide +kernel
theorem dX5_claim_37 : decode cX5_claim 37 = .ok (.ireturn, 1) := by decide +kernel
theorem dX5_claim_38 : decode cX5_claim 38 = .ok (.aload_n 0, 1) := by decide +kernel
theorem dX5_claim_39 : decode cX5_claim 39 = .ok (.invokevirtual 73, 3) := by decide +kernel
theorem dX5_claim_42 : decode cX5_claim 42 = .ok (.aload_n 0, 1) := by decide +kernel
theorem dX5_claim_43 : decode cX5_claim 43 = .ok (.iconst (-1), 1) := by decide +kernel
theorem dX5_claim_44 : decode cX5_claim 44 = .ok (.invokevirtual 132, 3) := by decide +kernel
theorem dX5_claim_47 : decode cX5_claim 47 = .ok (.ireturn, 1) := by decide +kernel
theorem dX5_spend_0 : decode cX5_spend 0 = .ok (.aload_n 0, 1) := by decide +kernel
theorem dX5_spend_1 : decode cX5_spend 1 = .ok (.iload_n 1, 1) := by decide +kernel
theorem dX5_spend_2 : decode cX5_spend 2 = .ok (.invokevirtual 92, 3) := by decide +kernel
theorem dX5_spend_5 : decode cX5_spend 5 = .ok (.ifCond .eq 14, 3) := by decide +kernel
theorem dX5_spend_8 : decode cX5_spend 8 = .ok (.iload_n 2, 1) := by decide +kernel
theorem dX5_spend_9 : decode cX5_spend 9 = .ok (.iconst 1, 1) := by decide +kernel
theorem dX5_spend_10 : decode cX5_spend 10 = .ok (.sipush 9999, 3) := by decide +kernel
theorem dX5_spend_13 : decode cX5_spend 13 = .ok (.invokestatic 82, 3) := by decide +kernel
theorem dX5_spend_16 : decode cX5_spend 16 = .ok (.ifCond .ne 5, 3) := by decide +kernel
theorem dX5_spend_19 : decode cX5_spend 19 = .ok (.iconst (-1), 1) := by decide +kernel
theorem dX5_spend_20 : decode cX5_spend 20 = .ok (.ireturn, 1) := by decide +kernel
theorem dX5_spend_21 : decode cX5_spend 21 = .ok (.aload_n 0, 1) := by decide +kernel
theorem dX5_spend_22 : decode cX5_spend 22 = .ok (.iload_n 1, 1) := by decide +kernel
theorem dX5_spend_23 : decode cX5_spend 23 = .ok (.iconst 0, 1) := by decide +kernel
theorem dX5_spend_24 : decode cX5_spend 24 = .ok (.invokevirtual 65, 3) := by decide +kernel
theorem dX5_spend_27 : decode cX5_spend 27 = .ok (.istore_n 3, 1) := by decide +kernel
theorem dX5_spend_28 : decode cX5_spend 28 = .ok (.iload_n 2, 1) := by decide +kernel
theorem dX5_spend_29 : decode cX5_spend 29 = .ok (.iload_n 3, 1) := by decide +kernel
theorem dX5_spend_30 : decode cX5_spend 30 = .ok (.if_icmp .le 9, 3) := by decide +kernel
theorem dX5_spend_33 : decode cX5_spend 33 = .ok (.iload_n 2, 1) := by decide +kernel
theorem dX5_spend_34 : decode cX5_spend 34 = .ok (.iload_n 3, 1) := by decide +kernel
theorem dX5_spend_35 : decode cX5_spend 35 = .ok (.isub, 1) := by decide +kernel
theorem dX5_spend_36 : decode cX5_spend 36 = .ok (.goto 4, 3) := by decide +kernel
theorem dX5_spend_39 : decode cX5_spend 39 = .ok (.iconst 0, 1) := by decide +kernel
theorem dX5_spend_40 : decode cX5_spend 40 = .ok (.istore 4, 2) := by decide +kernel
theorem dX5_spend_42 : decode cX5_spend 42 = .ok (.aload_n 0, 1) := by decide +kernel
theorem dX5_spend_43 : decode cX5_spend 43 = .ok (.iload_n 1, 1) := by decide +kernel
theorem dX5_spend_44 : decode cX5_spend 44 = .ok (.invokevirtual 69, 3) := by decide +kernel
theorem dX5_spend_47 : decode cX5_spend 47 = .ok (.ifCond .ne 22, 3) := by decide +kernel
theorem dX5_spend_50 : decode cX5_spend 50 = .ok (.iload 4, 2) := by decide +kernel
theorem dX5_spend_52 : decode cX5_spend 52 = .ok (.iload_n 1, 1) := by decide +kernel
theorem dX5_spend_53 : decode cX5_spend 53 = .ok (.ifCond .ne 7, 3) := by decide +kernel
theorem dX5_spend_56 : decode cX5_spend 56 = .ok (.iconst 0, 1) := by decide +kernel
theorem dX5_spend_57 : decode cX5_spend 57 = .ok (.goto 9, 3) := by decide +kernel
theorem dX5_spend_60 : decode cX5_spend 60 = .ok (.aload_n 0, 1) := by decide +kernel
theorem dX5_spend_61 : decode cX5_spend 61 = .ok (.iconst 0, 1) := by decide +kernel
theorem dX5_spend_62 : decode cX5_spend 62 = .ok (.iconst 0, 1) := by decide +kernel
theorem dX5_spend_63 : decode cX5_spend 63 = .ok (.invokevirtual 65, 3) := by decide +kernel
theorem dX5_spend_66 : decode cX5_spend 66 = .ok (.if_icmp .le 6, 3) := by decide +kernel
theorem dX5_spend_69 : decode cX5_spend 69 = .ok (.bipush (-2), 2) := by decide +kernel
theorem dX5_spend_71 : decode cX5_spend 71 = .ok (.ireturn, 1) := by decide +kernel
theorem dX5_spend_72 : decode cX5_spend 72 = .ok (.aload_n 0, 1) := by decide +kernel
theorem dX5_spend_73 : decode cX5_spend 73 = .ok (.invokevirtual 73, 3) := by decide +kernel
theorem dX5_spend_76 : decode cX5_spend 76 = .ok (.aload_n 0, 1) := by decide +kernel
theorem dX5_spend_77 : decode cX5_spend 77 = .ok (.iload_n 1, 1) := by decide +kernel
theorem dX5_spend_78 : decode cX5_spend 78 = .ok (.iconst 0, 1) := by decide +kernel
theorem dX5_spend_79 : decode cX5_spend 79 = .ok (.iload 4, 2) := by decide +kernel
theorem dX5_spend_81 : decode cX5_spend 81 = .ok (.iload_n 2, 1) := by decide +kernel
theorem dX5_spend_82 : decode cX5_spend 82 = .ok (.isub, 1) := by decide +kernel
theorem dX5_spend_83 : decode cX5_spend 83 = .ok (.invokevirtual 89, 3) := by decide +kernel
theorem dX5_spend_86 : decode cX5_spend 86 = .ok (.aload_n 0, 1) := by decide +kernel
theorem dX5_spend_87 : decode cX5_spend 87 = .ok (.iload_n 1, 1) := by decide +kernel
theorem dX5_spend_88 : decode cX5_spend 88 = .ok (.iconst 3, 1) := by decide +kernel
theorem dX5_spend_89 : decode cX5_spend 89 = .ok (.iload_n 2, 1) := by decide +kernel
theorem dX5_spend_90 : decode cX5_spend 90 = .ok (.invokevirtual 89, 3) := by decide +kernel
theorem dX5_spend_93 : decode cX5_spend 93 = .ok (.aload_n 0, 1) := by decide +kernel
theorem dX5_spend_94 : decode cX5_spend 94 = .ok (.iload_n 1, 1) := by decide +kernel
theorem dX5_spend_95 : decode cX5_spend 95 = .ok (.iconst 4, 1) := by decide +kernel
theorem dX5_spend_96 : decode cX5_spend 96 = .ok (.iload 4, 2) := by decide +kernel
theorem dX5_spend_98 : decode cX5_spend 98 = .ok (.invokevirtual 89, 3) := by decide +kernel
theorem dX5_spend_101 : decode cX5_spend 101 = .ok (.aload_n 0, 1) := by decide +kernel
theorem dX5_spend_102 : decode cX5_spend 102 = .ok (.iconst 0, 1) := by decide +kernel
theorem dX5_spend_103 : decode cX5_spend 103 = .ok (.iconst 0, 1) := by decide +kernel
theorem dX5_spend_104 : decode cX5_spend 104 = .ok (.iload 4, 2) := by decide +kernel
theorem dX5_spend_106 : decode cX5_spend 106 = .ok (.ineg, 1) := by decide +kernel
theorem dX5_spend_107 : decode cX5_spend 107 = .ok (.invokevirtual 89, 3) := by decide +kernel
theorem dX5_spend_110 : decode cX5_spend 110 = .ok (.aload_n 0, 1) := by decide +kernel
theorem dX5_spend_111 : decode cX5_spend 111 = .ok (.iconst 0, 1) := by decide +kernel
theorem dX5_spend_112 : decode cX5_spend 112 = .ok (.bipush 10, 2) := by decide +kernel
theorem dX5_spend_114 : decode cX5_spend 114 = .ok (.iload 4, 2) := by decide +kernel
theorem dX5_spend_116 : decode cX5_spend 116 = .ok (.invokevirtual 89, 3) := by decide +kernel
theorem dX5_spend_119 : decode cX5_spend 119 = .ok (.iload 4, 2) := by decide +kernel
theorem dX5_spend_121 : decode cX5_spend 121 = .ok (.ireturn, 1) := by decide +kernel
theorem dX5_weight_0 : decode cX5_weight 0 = .ok (.iconst 0, 1) := by decide +kernel
theorem dX5_weight_1 : decode cX5_weight 1 = .ok (.istore_n 3, 1) := by decide +kernel
theorem dX5_weight_2 : decode cX5_weight 2 = .ok (.iconst 0, 1) := by decide +kernel
theorem dX5_weight_3 : decode cX5_weight 3 = .ok (.istore 4, 2) := by decide +kernel
theorem dX5_weight_5 : decode cX5_weight 5 = .ok (.iload 4, 2) := by decide +kernel
theorem dX5_weight_7 : decode cX5_weight 7 = .ok (.aload_n 0, 1) := by decide +kernel
theorem dX5_weight_8 : decode cX5_weight 8 = .ok (.getfield 7, 3) := by decide +kernel
theorem dX5_weight_11 : decode cX5_weight 11 = .ok (.iconst 4, 1) := by decide +kernel
theorem dX5_weight_12 : decode cX5_weight 12 = .ok (.iaload, 1) := by decide +kernel
theorem dX5_weight_13 : decode cX5_weight 13 = .ok (.if_icmp .ge 67, 3) := by decide +kernel
theorem dX5_weight_16 : decode cX5_weight 16 = .ok (.aload_n 0, 1) := by decide +kernel
theorem dX5_weight_17 : decode cX5_weight 17 = .ok (.iload 4, 2) := by decide +kernel
theorem dX5_weight_19 : decode cX5_weight 19 = .ok (.iconst 0, 1) := by decide +kernel
theorem dX5_weight_20 : decode cX5_weight 20 = .ok (.invokevirtual 112, 3) := by decide +kernel
theorem dX5_weight_23 : decode cX5_weight 23 = .ok (.iload_n 1, 1) := by decide +kernel
theorem dX5_weight_24 : decode cX5_weight 24 = .ok (.if_icmp .ne 28, 3) := by decide +kernel
theorem dX5_weight_27 : decode cX5_weight 27 = .ok (.aload_n 0, 1) := by decide +kernel
theorem dX5_weight_28 : decode cX5_weight 28 = .ok (.iload 4, 2) := by decide +kernel
theorem dX5_weight_30 : decode cX5_weight 30 = .ok (.iconst 1, 1) := by decide +kernel
theorem dX5_weight_31 : decode cX5_weight 31 = .ok (.invokevirtual 112, 3) := by decide +kernel
theorem dX5_weight_34 : decode cX5_weight 34 = .ok (.iload_n 2, 1) := by decide +kernel
theorem dX5_weight_35 : decode cX5_weight 35 = .ok (.if_icmp .ne 17, 3) := by decide +kernel
theorem dX5_weight_38 : decode cX5_weight 38 = .ok (.aload_n 0, 1) := by decide +kernel
theorem dX5_weight_39 : decode cX5_weight 39 = .ok (.iload 4, 2) := by decide +kernel
theorem dX5_weight_41 : decode cX5_weight 41 = .ok (.iconst 5, 1) := by decide +kernel
theorem dX5_weight_42 : decode cX5_weight 42 = .ok (.invokevirtual 112, 3) := by decide +kernel
theorem dX5_weight_45 : decode cX5_weight 45 = .ok (.ifCond .ne 7, 3) := by decide +kernel
theorem dX5_weight_48 : decode cX5_weight 48 = .ok (.iconst 1, 1) := by decide +kernel
theorem dX5_weight_49 : decode cX5_weight 49 = .ok (.goto 4, 3) := by decide +kernel
theorem dX5_weight_52 : decode cX5_weight 52 = .ok (.iconst 0, 1) := by decide +kernel
theorem dX5_weight_53 : decode cX5_weight 53 = .ok (.istore 5, 2) := by decide +kernel
theorem dX5_weight_55 : decode cX5_weight 55 = .ok (.iload_n 3, 1) := by decide +kernel
theorem dX5_weight_56 : decode cX5_weight 56 = .ok (.iload 5, 2) := by decide +kernel
theorem dX5_weight_58 : decode cX5_weight 58 = .ok (.ifCond .eq 13, 3) := by decide +kernel
theorem dX5_weight_61 : decode cX5_weight 61 = .ok (.aload_n 0, 1) := by decide +kernel
theorem dX5_weight_62 : decode cX5_weight 62 = .ok (.iload 4, 2) := by decide +kernel
theorem dX5_weight_64 : decode cX5_weight 64 = .ok (.iconst 2, 1) := by decide +kernel
theorem dX5_weight_65 : decode cX5_weight 65 = .ok (.invokevirtual 112, 3) := by decide +kernel
theorem dX5_weight_68 : decode cX5_weight 68 = .ok (.goto 4, 3) := by decide +kernel
theorem dX5_weight_71 : decode cX5_weight 71 = .ok (.iconst 0, 1) := by decide +kernel
theorem dX5_weight_72 : decode cX5_weight 72 = .ok (.iadd, 1) := by decide +kernel
theorem dX5_weight_73 : decode cX5_weight 73 = .ok (.istore_n 3, 1) := by decide +kernel
theorem dX5_weight_74 : decode cX5_weight 74 = .ok (.iinc 4 1, 3) := by decide +kernel
theorem dX5_weight_77 : decode cX5_weight 77 = .ok (.goto (-72), 3) := by decide +kernel
theorem dX5_weight_80 : decode cX5_weight 80 = .ok (.iload_n 3, 1) := by decide +kernel
theorem dX5_weight_81 : decode cX5_weight 81 = .ok (.ireturn, 1) := by decide +kernel
theorem dX5_weights_0 : decode cX5_weights 0 = .ok (.iconst 0, 1) := by decide +kernel
theorem dX5_weights_1 : decode cX5_weights 1 = .ok (.istore_n 3, 1) := by decide +kernel
theorem dX5_weights_2 : decode cX5_weights 2 = .ok (.iconst 0, 1) := by decide +kernel
theorem dX5_weights_3 : decode cX5_weights 3 = .ok (.istore 4, 2) := by decide +kernel
theorem dX5_weights_5 : decode cX5_weights 5 = .ok (.iload 4, 2) := by decide +kernel
theorem dX5_weights_7 : decode cX5_weights 7 = .ok (.aload_n 0, 1) := by decide +kernel
theorem dX5_weights_8 : decode cX5_weights 8 = .ok (.getfield 7, 3) := by decide +kernel
theorem dX5_weights_11 : decode cX5_weights 11 = .ok (.iconst 3, 1) := by decide +kernel
theorem dX5_weights_12 : decode cX5_weights 12 = .ok (.iaload, 1) := by decide +kernel
theorem dX5_weights_13 : decode cX5_weights 13 = .ok (.if_icmp .ge 40, 3) := by decide +kernel
theorem dX5_weights_16 : decode cX5_weights 16 = .ok (.iload_n 3, 1) := by decide +kernel
theorem dX5_weights_17 : decode cX5_weights 17 = .ok (.iload_n 2, 1) := by decide +kernel
theorem dX5_weights_18 : decode cX5_weights 18 = .ok (.ifCond .lt 16, 3) := by decide +kernel
theorem dX5_weights_21 : decode cX5_weights 21 = .ok (.aload_n 0, 1) := by decide +kernel
theorem dX5_weights_22 : decode cX5_weights 22 = .ok (.iload 4, 2) := by decide +kernel
theorem dX5_weights_24 : decode cX5_weights 24 = .ok (.iconst 1, 1) := by decide +kernel
theorem dX5_weights_25 : decode cX5_weights 25 = .ok (.iload_n 1, 1) := by decide +kernel
theorem dX5_weights_26 : decode cX5_weights 26 = .ok (.iadd, 1) := by decide +kernel
theorem dX5_weights_27 : decode cX5_weights 27 = .ok (.invokevirtual 86, 3) := by decide +kernel
theorem dX5_weights_30 : decode cX5_weights 30 = .ok (.iload_n 2, 1) := by decide +kernel
theorem dX5_weights_31 : decode cX5_weights 31 = .ok (.if_icmp .ne 13, 3) := by decide +kernel
theorem dX5_weights_34 : decode cX5_weights 34 = .ok (.aload_n 0, 1) := by decide +kernel
theorem dX5_weights_35 : decode cX5_weights 35 = .ok (.iload 4, 2) := by decide +kernel
theorem dX5_weights_37 : decode cX5_weights 37 = .ok (.iload_n 1, 1) := by decide +kernel
theorem dX5_weights_38 : decode cX5_weights 38 = .ok (.invokevirtual 135, 3) := by decide +kernel
theorem dX5_weights_41 : decode cX5_weights 41 = .ok (.goto 4, 3) := by decide +kernel
theorem dX5_weights_44 : decode cX5_weights 44 = .ok (.iconst 0, 1) := by decide +kernel
theorem dX5_weights_45 : decode cX5_weights 45 = .ok (.iadd, 1) := by decide +kernel
theorem dX5_weights_46 : decode cX5_weights 46 = .ok (.istore_n 3, 1) := by decide +kernel
theorem dX5_weights_47 : decode cX5_weights 47 = .ok (.iinc 4 1, 3) := by decide +kernel
theorem dX5_weights_50 : decode cX5_weights 50 = .ok (.goto (-45), 3) := by decide +kernel
theorem dX5_weights_53 : decode cX5_weights 53 = .ok (.iload_n 3, 1) := by decide +kernel
theorem dX5_weights_54 : decode cX5_weights 54 = .ok (.ireturn, 1) := by decide +kernel
theorem dX5_areTwo_0 : decode cX5_areTwo 0 = .ok (.aload_n 0, 1) := by decide +kernel
theorem dX5_areTwo_1 : decode cX5_areTwo 1 = .ok (.iload_n 1, 1) := by decide +kernel
theorem dX5_areTwo_2 : decode cX5_areTwo 2 = .ok (.invokevirtual 92, 3) := by decide +kernel
theorem dX5_areTwo_5 : decode cX5_areTwo 5 = .ok (.ifCond .eq 20, 3) := by decide +kernel
theorem dX5_areTwo_8 : decode cX5_areTwo 8 = .ok (.aload_n 0, 1) := by decide +kernel
theorem dX5_areTwo_9 : decode cX5_areTwo 9 = .ok (.iload_n 2, 1) := by decide +kernel
theorem dX5_areTwo_10 : decode cX5_areTwo 10 = .ok (.invokevirtual 92, 3) := by decide +kernel
theorem dX5_areTwo_13 : decode cX5_areTwo 13 = .ok (.ifCond .eq 12, 3) := by decide +kernel
theorem dX5_areTwo_16 : decode cX5_areTwo 16 = .ok (.iload_n 1, 1) := by decide +kernel
theorem dX5_areTwo_17 : decode cX5_areTwo 17 = .ok (.iload_n 2, 1) := by decide +kernel
theorem dX5_areTwo_18 : decode cX5_areTwo 18 = .ok (.if_icmp .eq 7, 3) := by decide +kernel
theorem dX5_areTwo_21 : decode cX5_areTwo 21 = .ok (.iconst 1, 1) := by decide +kernel
theorem dX5_areTwo_22 : decode cX5_areTwo 22 = .ok (.goto 4, 3) := by decide +kernel
theorem dX5_areTwo_25 : decode cX5_areTwo 25 = .ok (.iconst 0, 1) := by decide +kernel
theorem dX5_areTwo_26 : decode cX5_areTwo 26 = .ok (.ireturn, 1) := by decide +kernel
theorem dX5_agree_0 : decode cX5_agree 0 = .ok (.aload_n 0, 1) := by decide +kernel
theorem dX5_agree_1 : decode cX5_agree 1 = .ok (.iload_n 1, 1) := by decide +kernel
theorem dX5_agree_2 : decode cX5_agree 2 = .ok (.invokevirtual 79, 3) := by decide +kernel
theorem dX5_agree_5 : decode cX5_agree 5 = .ok (.ifCond .eq 12, 3) := by decide +kernel
theorem dX5_agree_8 : decode cX5_agree 8 = .ok (.aload_n 0, 1) := by decide +kernel
theorem dX5_agree_9 : decode cX5_agree 9 = .ok (.iload_n 2, 1) := by decide +kernel
theorem dX5_agree_10 : decode cX5_agree 10 = .ok (.iload_n 3, 1) := by decide +kernel
theorem dX5_agree_11 : decode cX5_agree 11 = .ok (.invokevirtual 138, 3) := by decide +kernel
theorem dX5_agree_14 : decode cX5_agree 14 = .ok (.ifCond .ne 5, 3) := by decide +kernel
theorem dX5_agree_17 : decode cX5_agree 17 = .ok (.iconst (-1), 1) := by decide +kernel
theorem dX5_agree_18 : decode cX5_agree 18 = .ok (.ireturn, 1) := by decide +kernel
theorem dX5_agree_19 : decode cX5_agree 19 = .ok (.aload_n 0, 1) := by decide +kernel
theorem dX5_agree_20 : decode cX5_agree 20 = .ok (.iload_n 2, 1) := by decide +kernel
theorem dX5_agree_21 : decode cX5_agree 21 = .ok (.invokevirtual 69, 3) := by decide +kernel
theorem dX5_agree_24 : decode cX5_agree 24 = .ok (.ifCond .ne 15, 3) := by decide +kernel
theorem dX5_agree_27 : decode cX5_agree 27 = .ok (.aload_n 0, 1) := by decide +kernel
theorem dX5_agree_28 : decode cX5_agree 28 = .ok (.iload_n 3, 1) := by decide +kernel
theorem dX5_agree_29 : decode cX5_agree 29 = .ok (.invokevirtual 69, 3) := by decide +kernel
theorem dX5_agree_32 : decode cX5_agree 32 = .ok (.ifCond .ne 7, 3) := by decide +kernel
theorem dX5_agree_35 : decode cX5_agree 35 = .ok (.iload_n 2, 1) := by decide +kernel
theorem dX5_agree_36 : decode cX5_agree 36 = .ok (.ifCond .ne 6, 3) := by decide +kernel
theorem dX5_agree_39 : decode cX5_agree 39 = .ok (.bipush (-2), 2) := by decide +kernel
theorem dX5_agree_41 : decode cX5_agree 41 = .ok (.ireturn, 1) := by decide +kernel
theorem dX5_agree_42 : decode cX5_agree 42 = .ok (.aload_n 0, 1) := by decide +kernel
theorem dX5_agree_43 : decode cX5_agree 43 = .ok (.invokevirtual 73, 3) := by decide +kernel
theorem dX5_agree_46 : decode cX5_agree 46 = .ok (.aload_n 0, 1) := by decide +kernel
theorem dX5_agree_47 : decode cX5_agree 47 = .ok (.iload_n 1, 1) := by decide +kernel
theorem dX5_agree_48 : decode cX5_agree 48 = .ok (.iconst 1, 1) := by decide +kernel
theorem dX5_agree_49 : decode cX5_agree 49 = .ok (.iload_n 2, 1) := by decide +kernel
theorem dX5_agree_50 : decode cX5_agree 50 = .ok (.iadd, 1) := by decide +kernel
theorem dX5_agree_51 : decode cX5_agree 51 = .ok (.iload_n 3, 1) := by decide +kernel
theorem dX5_agree_52 : decode cX5_agree 52 = .ok (.invokevirtual 76, 3) := by decide +kernel
theorem dX5_agree_55 : decode cX5_agree 55 = .ok (.aload_n 0, 1) := by decide +kernel
theorem dX5_agree_56 : decode cX5_agree 56 = .ok (.iload_n 1, 1) := by decide +kernel
theorem dX5_agree_57 : decode cX5_agree 57 = .ok (.iload_n 2, 1) := by decide +kernel
theorem dX5_agree_58 : decode cX5_agree 58 = .ok (.invokevirtual 135, 3) := by decide +kernel
theorem dX5_agree_61 : decode cX5_agree 61 = .ok (.ireturn, 1) := by decide +kernel
theorem dX5_merge_0 : decode cX5_merge 0 = .ok (.aload_n 0, 1) := by decide +kernel
theorem dX5_merge_1 : decode cX5_merge 1 = .ok (.iload_n 1, 1) := by decide +kernel
theorem dX5_merge_2 : decode cX5_merge 2 = .ok (.iload_n 2, 1) := by decide +kernel
theorem dX5_merge_3 : decode cX5_merge 3 = .ok (.invokevirtual 138, 3) := by decide +kernel
theorem dX5_merge_6 : decode cX5_merge 6 = .ok (.ifCond .ne 5, 3) := by decide +kernel
theorem dX5_merge_9 : decode cX5_merge 9 = .ok (.iconst (-1), 1) := by decide +kernel
theorem dX5_merge_10 : decode cX5_merge 10 = .ok (.ireturn, 1) := by decide +kernel
theorem dX5_merge_11 : decode cX5_merge 11 = .ok (.aload_n 0, 1) := by decide +kernel
theorem dX5_merge_12 : decode cX5_merge 12 = .ok (.iload_n 1, 1) := by decide +kernel
theorem dX5_merge_13 : decode cX5_merge 13 = .ok (.iconst (-1), 1) := by decide +kernel
theorem dX5_merge_14 : decode cX5_merge 14 = .ok (.invokevirtual 142, 3) := by decide +kernel
theorem dX5_merge_17 : decode cX5_merge 17 = .ok (.istore_n 3, 1) := by decide +kernel
theorem dX5_merge_18 : decode cX5_merge 18 = .ok (.aload_n 0, 1) := by decide +kernel
theorem dX5_merge_19 : decode cX5_merge 19 = .ok (.iload_n 1, 1) := by decide +kernel
theorem dX5_merge_20 : decode cX5_merge 20 = .ok (.invokevirtual 69, 3) := by decide +kernel
theorem dX5_merge_23 : decode cX5_merge 23 = .ok (.ifCond .ne 39, 3) := by decide +kernel
theorem dX5_merge_26 : decode cX5_merge 26 = .ok (.aload_n 0, 1) := by decide +kernel
theorem dX5_merge_27 : decode cX5_merge 27 = .ok (.iload_n 2, 1) := by decide +kernel
theorem dX5_merge_28 : decode cX5_merge 28 = .ok (.invokevirtual 69, 3) := by decide +kernel
theorem dX5_merge_31 : decode cX5_merge 31 = .ok (.ifCond .ne 31, 3) := by decide +kernel
theorem dX5_merge_34 : decode cX5_merge 34 = .ok (.iload_n 1, 1) := by decide +kernel
theorem dX5_merge_35 : decode cX5_merge 35 = .ok (.ifCond .eq 27, 3) := by decide +kernel
theorem dX5_merge_38 : decode cX5_merge 38 = .ok (.iload_n 3, 1) := by decide +kernel
theorem dX5_merge_39 : decode cX5_merge 39 = .ok (.ifCond .eq 23, 3) := by decide +kernel
theorem dX5_merge_42 : decode cX5_merge 42 = .ok (.bipush 100, 2) := by decide +kernel
theorem dX5_merge_44 : decode cX5_merge 44 = .ok (.aload_n 0, 1) := by decide +kernel
theorem dX5_merge_45 : decode cX5_merge 45 = .ok (.iload_n 1, 1) := by decide +kernel
theorem dX5_merge_46 : decode cX5_merge 46 = .ok (.iload_n 2, 1) := by decide +kernel
theorem dX5_merge_47 : decode cX5_merge 47 = .ok (.invokevirtual 142, 3) := by decide +kernel
theorem dX5_merge_50 : decode cX5_merge 50 = .ok (.imul, 1) := by decide +kernel
theorem dX5_merge_51 : decode cX5_merge 51 = .ok (.aload_n 0, 1) := by decide +kernel
theorem dX5_merge_52 : decode cX5_merge 52 = .ok (.getfield 7, 3) := by decide +kernel
theorem dX5_merge_55 : decode cX5_merge 55 = .ok (.iconst 0, 1) := by decide +kernel
theorem dX5_merge_56 : decode cX5_merge 56 = .ok (.iaload, 1) := by decide +kernel
theorem dX5_merge_57 : decode cX5_merge 57 = .ok (.iload_n 3, 1) := by decide +kernel
theorem dX5_merge_58 : decode cX5_merge 58 = .ok (.imul, 1) := by decide +kernel
theorem dX5_merge_59 : decode cX5_merge 59 = .ok (.if_icmp .ge 6, 3) := by decide +kernel
theorem dX5_merge_62 : decode cX5_merge 62 = .ok (.bipush (-2), 2) := by decide +kernel
theorem dX5_merge_64 : decode cX5_merge 64 = .ok (.ireturn, 1) := by decide +kernel
theorem dX5_merge_65 : decode cX5_merge 65 = .ok (.aload_n 0, 1) := by decide +kernel
theorem dX5_merge_66 : decode cX5_merge 66 = .ok (.invokevirtual 73, 3) := by decide +kernel
theorem dX5_merge_69 : decode cX5_merge 69 = .ok (.aload_n 0, 1) := by decide +kernel
theorem dX5_merge_70 : decode cX5_merge 70 = .ok (.iload_n 1, 1) := by decide +kernel
theorem dX5_merge_71 : decode cX5_merge 71 = .ok (.iconst 0, 1) := by decide +kernel
theorem dX5_merge_72 : decode cX5_merge 72 = .ok (.invokevirtual 65, 3) := by decide +kernel
theorem dX5_merge_75 : decode cX5_merge 75 = .ok (.istore 4, 2) := by decide +kernel
theorem dX5_merge_77 : decode cX5_merge 77 = .ok (.aload_n 0, 1) := by decide +kernel
theorem dX5_merge_78 : decode cX5_merge 78 = .ok (.iload_n 1, 1) := by decide +kernel
theorem dX5_merge_79 : decode cX5_merge 79 = .ok (.iconst 0, 1) := by decide +kernel
theorem dX5_merge_80 : decode cX5_merge 80 = .ok (.iconst 0, 1) := by decide +kernel
theorem dX5_merge_81 : decode cX5_merge 81 = .ok (.invokevirtual 35, 3) := by decide +kernel
theorem dX5_merge_84 : decode cX5_merge 84 = .ok (.aload_n 0, 1) := by decide +kernel
theorem dX5_merge_85 : decode cX5_merge 85 = .ok (.iload_n 1, 1) := by decide +kernel
theorem dX5_merge_86 : decode cX5_merge 86 = .ok (.bipush 9, 2) := by decide +kernel
theorem dX5_merge_88 : decode cX5_merge 88 = .ok (.iload_n 2, 1) := by decide +kernel
theorem dX5_merge_89 : decode cX5_merge 89 = .ok (.invokevirtual 35, 3) := by decide +kernel
theorem dX5_merge_92 : decode cX5_merge 92 = .ok (.aload_n 0, 1) := by decide +kernel
theorem dX5_merge_93 : decode cX5_merge 93 = .ok (.iload_n 1, 1) := by decide +kernel
theorem dX5_merge_94 : decode cX5_merge 94 = .ok (.bipush 8, 2) := by decide +kernel
theorem dX5_merge_96 : decode cX5_merge 96 = .ok (.iload 4, 2) := by decide +kernel
theorem dX5_merge_98 : decode cX5_merge 98 = .ok (.invokevirtual 89, 3) := by decide +kernel
theorem dX5_merge_101 : decode cX5_merge 101 = .ok (.aload_n 0, 1) := by decide +kernel
theorem dX5_merge_102 : decode cX5_merge 102 = .ok (.iload_n 2, 1) := by decide +kernel
theorem dX5_merge_103 : decode cX5_merge 103 = .ok (.iconst 0, 1) := by decide +kernel
theorem dX5_merge_104 : decode cX5_merge 104 = .ok (.iload 4, 2) := by decide +kernel
theorem dX5_merge_106 : decode cX5_merge 106 = .ok (.invokevirtual 89, 3) := by decide +kernel
theorem dX5_merge_109 : decode cX5_merge 109 = .ok (.aload_n 0, 1) := by decide +kernel
theorem dX5_merge_110 : decode cX5_merge 110 = .ok (.iload_n 2, 1) := by decide +kernel
theorem dX5_merge_111 : decode cX5_merge 111 = .ok (.bipush 7, 2) := by decide +kernel
theorem dX5_merge_113 : decode cX5_merge 113 = .ok (.iload 4, 2) := by decide +kernel
theorem dX5_merge_115 : decode cX5_merge 115 = .ok (.invokevirtual 89, 3) := by decide +kernel
theorem dX5_merge_118 : decode cX5_merge 118 = .ok (.iconst 0, 1) := by decide +kernel
theorem dX5_merge_119 : decode cX5_merge 119 = .ok (.istore 5, 2) := by decide +kernel
theorem dX5_merge_121 : decode cX5_merge 121 = .ok (.iload 5, 2) := by decide +kernel
theorem dX5_merge_123 : decode cX5_merge 123 = .ok (.aload_n 0, 1) := by decide +kernel
theorem dX5_merge_124 : decode cX5_merge 124 = .ok (.getfield 7, 3) := by decide +kernel
theorem dX5_merge_127 : decode cX5_merge 127 = .ok (.iconst 5, 1) := by decide +kernel
theorem dX5_merge_128 : decode cX5_merge 128 = .ok (.iaload, 1) := by decide +kernel
theorem dX5_merge_129 : decode cX5_merge 129 = .ok (.if_icmp .ge 66, 3) := by decide +kernel
theorem dX5_merge_132 : decode cX5_merge 132 = .ok (.aload_n 0, 1) := by decide +kernel
theorem dX5_merge_133 : decode cX5_merge 133 = .ok (.iload 5, 2) := by decide +kernel
theorem dX5_merge_135 : decode cX5_merge 135 = .ok (.iconst 5, 1) := by decide +kernel
theorem dX5_merge_136 : decode cX5_merge 136 = .ok (.invokevirtual 105, 3) := by decide +kernel
theorem dX5_merge_139 : decode cX5_merge 139 = .ok (.ifCond .ne 50, 3) := by decide +kernel
theorem dX5_merge_142 : decode cX5_merge 142 = .ok (.aload_n 0, 1) := by decide +kernel
theorem dX5_merge_143 : decode cX5_merge 143 = .ok (.iload 5, 2) := by decide +kernel
theorem dX5_merge_145 : decode cX5_merge 145 = .ok (.iconst 1, 1) := by decide +kernel
theorem dX5_merge_146 : decode cX5_merge 146 = .ok (.invokevirtual 105, 3) := by decide +kernel
theorem dX5_merge_149 : decode cX5_merge 149 = .ok (.iload_n 1, 1) := by decide +kernel
theorem dX5_merge_150 : decode cX5_merge 150 = .ok (.if_icmp .ne 39, 3) := by decide +kernel
theorem dX5_merge_153 : decode cX5_merge 153 = .ok (.aload_n 0, 1) := by decide +kernel
theorem dX5_merge_154 : decode cX5_merge 154 = .ok (.aload_n 0, 1) := by decide +kernel
theorem dX5_merge_155 : decode cX5_merge 155 = .ok (.iload 5, 2) := by decide +kernel
theorem dX5_merge_157 : decode cX5_merge 157 = .ok (.iconst 0, 1) := by decide +kernel
theorem dX5_merge_158 : decode cX5_merge 158 = .ok (.invokevirtual 105, 3) := by decide +kernel
theorem dX5_merge_161 : decode cX5_merge 161 = .ok (.iconst 1, 1) := by decide +kernel
theorem dX5_merge_162 : decode cX5_merge 162 = .ok (.iload_n 1, 1) := by decide +kernel
theorem dX5_merge_163 : decode cX5_merge 163 = .ok (.iadd, 1) := by decide +kernel
theorem dX5_merge_164 : decode cX5_merge 164 = .ok (.invokevirtual 86, 3) := by decide +kernel
theorem dX5_merge_167 : decode cX5_merge 167 = .ok (.iload_n 2, 1) := by decide +kernel
theorem dX5_merge_168 : decode cX5_merge 168 = .ok (.if_icmp .ne 14, 3) := by decide +kernel
theorem dX5_merge_171 : decode cX5_merge 171 = .ok (.aload_n 0, 1) := by decide +kernel
theorem dX5_merge_172 : decode cX5_merge 172 = .ok (.iload 5, 2) := by decide +kernel
theorem dX5_merge_174 : decode cX5_merge 174 = .ok (.iconst 1, 1) := by decide +kernel
theorem dX5_merge_175 : decode cX5_merge 175 = .ok (.iload_n 2, 1) := by decide +kernel
theorem dX5_merge_176 : decode cX5_merge 176 = .ok (.invokevirtual 99, 3) := by decide +kernel
theorem dX5_merge_179 : decode cX5_merge 179 = .ok (.goto 10, 3) := by decide +kernel
theorem dX5_merge_182 : decode cX5_merge 182 = .ok (.aload_n 0, 1) := by decide +kernel
theorem dX5_merge_183 : decode cX5_merge 183 = .ok (.iload 5, 2) := by decide +kernel
theorem dX5_merge_185 : decode cX5_merge 185 = .ok (.iconst 2, 1) := by decide +kernel
theorem dX5_merge_186 : decode cX5_merge 186 = .ok (.invokevirtual 108, 3) := by decide +kernel
theorem dX5_merge_189 : decode cX5_merge 189 = .ok (.iinc 5 1, 3) := by decide +kernel
theorem dX5_merge_192 : decode cX5_merge 192 = .ok (.goto (-71), 3) := by decide +kernel
theorem dX5_merge_195 : decode cX5_merge 195 = .ok (.iconst 0, 1) := by decide +kernel
theorem dX5_merge_196 : decode cX5_merge 196 = .ok (.istore 5, 2) := by decide +kernel
theorem dX5_merge_198 : decode cX5_merge 198 = .ok (.iload 5, 2) := by decide +kernel
theorem dX5_merge_200 : decode cX5_merge 200 = .ok (.aload_n 0, 1) := by decide +kernel
theorem dX5_merge_201 : decode cX5_merge 201 = .ok (.getfield 7, 3) := by decide +kernel
theorem dX5_merge_204 : decode cX5_merge 204 = .ok (.iconst 3, 1) := by decide +kernel
theorem dX5_merge_205 : decode cX5_merge 205 = .ok (.iaload, 1) := by decide +kernel
theorem dX5_merge_206 : decode cX5_merge 206 = .ok (.if_icmp .ge 20, 3) := by decide +kernel
theorem dX5_merge_209 : decode cX5_merge 209 = .ok (.aload_n 0, 1) := by decide +kernel
theorem dX5_merge_210 : decode cX5_merge 210 = .ok (.iload 5, 2) := by decide +kernel
theorem dX5_merge_212 : decode cX5_merge 212 = .ok (.iconst 1, 1) := by decide +kernel
theorem dX5_merge_213 : decode cX5_merge 213 = .ok (.iload_n 1, 1) := by decide +kernel
theorem dX5_merge_214 : decode cX5_merge 214 = .ok (.iadd, 1) := by decide +kernel
theorem dX5_merge_215 : decode cX5_merge 215 = .ok (.bipush (-4), 2) := by decide +kernel
theorem dX5_merge_217 : decode cX5_merge 217 = .ok (.invokevirtual 76, 3) := by decide +kernel
theorem dX5_merge_220 : decode cX5_merge 220 = .ok (.iinc 5 1, 3) := by decide +kernel
theorem dX5_merge_223 : decode cX5_merge 223 = .ok (.goto (-25), 3) := by decide +kernel
theorem dX5_merge_226 : decode cX5_merge 226 = .ok (.iload 4, 2) := by decide +kernel
theorem dX5_merge_228 : decode cX5_merge 228 = .ok (.ireturn, 1) := by decide +kernel
theorem dX5_refund_0 : decode cX5_refund 0 = .ok (.iload_n 1, 1) := by decide +kernel
theorem dX5_refund_1 : decode cX5_refund 1 = .ok (.ifCond .lt 13, 3) := by decide +kernel
theorem dX5_refund_4 : decode cX5_refund 4 = .ok (.iload_n 1, 1) := by decide +kernel
theorem dX5_refund_5 : decode cX5_refund 5 = .ok (.aload_n 0, 1) := by decide +kernel
theorem dX5_refund_6 : decode cX5_refund 6 = .ok (.getfield 7, 3) := by decide +kernel
theorem dX5_refund_9 : decode cX5_refund 9 = .ok (.iconst 4, 1) := by decide +kernel
theorem dX5_refund_10 : decode cX5_refund 10 = .ok (.iaload, 1) := by decide +kernel
theorem dX5_refund_11 : decode cX5_refund 11 = .ok (.if_icmp .lt 5, 3) := by decide +kernel
theorem dX5_refund_14 : decode cX5_refund 14 = .ok (.iconst (-1), 1) := by decide +kernel
theorem dX5_refund_15 : decode cX5_refund 15 = .ok (.ireturn, 1) := by decide +kernel
theorem dX5_refund_16 : decode cX5_refund 16 = .ok (.aload_n 0, 1) := by decide +kernel
theorem dX5_refund_17 : decode cX5_refund 17 = .ok (.iload_n 1, 1) := by decide +kernel
theorem dX5_refund_18 : decode cX5_refund 18 = .ok (.iconst 2, 1) := by decide +kernel
theorem dX5_refund_19 : decode cX5_refund 19 = .ok (.invokevirtual 112, 3) := by decide +kernel
theorem dX5_refund_22 : decode cX5_refund 22 = .ok (.istore_n 2, 1) := by decide +kernel
theorem dX5_refund_23 : decode cX5_refund 23 = .ok (.aload_n 0, 1) := by decide +kernel
theorem dX5_refund_24 : decode cX5_refund 24 = .ok (.iload_n 1, 1) := by decide +kernel
theorem dX5_refund_25 : decode cX5_refund 25 = .ok (.iconst 4, 1) := by decide +kernel
theorem dX5_refund_26 : decode cX5_refund 26 = .ok (.invokevirtual 112, 3) := by decide +kernel
theorem dX5_refund_29 : decode cX5_refund 29 = .ok (.iconst 1, 1) := by decide +kernel
theorem dX5_refund_30 : decode cX5_refund 30 = .ok (.if_icmp .ne 10, 3) := by decide +kernel
theorem dX5_refund_33 : decode cX5_refund 33 = .ok (.iload_n 2, 1) := by decide +kernel
theorem dX5_refund_34 : decode cX5_refund 34 = .ok (.invokestatic 121, 3) := by decide +kernel
theorem dX5_refund_37 : decode cX5_refund 37 = .ok (.goto 4, 3) := by decide +kernel
theorem dX5_refund_40 : decode cX5_refund 40 = .ok (.iconst 0, 1) := by decide +kernel
theorem dX5_refund_41 : decode cX5_refund 41 = .ok (.istore_n 3, 1) := by decide +kernel
theorem dX5_refund_42 : decode cX5_refund 42 = .ok (.aload_n 0, 1) := by decide +kernel
theorem dX5_refund_43 : decode cX5_refund 43 = .ok (.aload_n 0, 1) := by decide +kernel
theorem dX5_refund_44 : decode cX5_refund 44 = .ok (.iload_n 1, 1) := by decide +kernel
theorem dX5_refund_45 : decode cX5_refund 45 = .ok (.iconst 1, 1) := by decide +kernel
theorem dX5_refund_46 : decode cX5_refund 46 = .ok (.invokevirtual 112, 3) := by decide +kernel
theorem dX5_refund_49 : decode cX5_refund 49 = .ok (.invokevirtual 125, 3) := by decide +kernel
theorem dX5_refund_52 : decode cX5_refund 52 = .ok (.istore 4, 2) := by decide +kernel
theorem dX5_refund_54 : decode cX5_refund 54 = .ok (.aload_n 0, 1) := by decide +kernel
theorem dX5_refund_55 : decode cX5_refund 55 = .ok (.iload_n 1, 1) := by decide +kernel
theorem dX5_refund_56 : decode cX5_refund 56 = .ok (.iconst 5, 1) := by decide +kernel
theorem dX5_refund_57 : decode cX5_refund 57 = .ok (.invokevirtual 112, 3) := by decide +kernel
theorem dX5_refund_60 : decode cX5_refund 60 = .ok (.iconst 1, 1) := by decide +kernel
theorem dX5_refund_61 : decode cX5_refund 61 = .ok (.if_icmp .eq 16, 3) := by decide +kernel
theorem dX5_refund_64 : decode cX5_refund 64 = .ok (.aload_n 0, 1) := by decide +kernel
theorem dX5_refund_65 : decode cX5_refund 65 = .ok (.iload 4, 2) := by decide +kernel
theorem dX5_refund_67 : decode cX5_refund 67 = .ok (.iconst 0, 1) := by decide +kernel
theorem dX5_refund_68 : decode cX5_refund 68 = .ok (.invokevirtual 65, 3) := by decide +kernel
theorem dX5_refund_71 : decode cX5_refund 71 = .ok (.iload_n 2, 1) := by decide +kernel
theorem dX5_refund_72 : decode cX5_refund 72 = .ok (.iload_n 3, 1) := by decide +kernel
theorem dX5_refund_73 : decode cX5_refund 73 = .ok (.iadd, 1) := by decide +kernel
theorem dX5_refund_74 : decode cX5_refund 74 = .ok (.if_icmp .ge 6, 3) := by decide +kernel
theorem dX5_refund_77 : decode cX5_refund 77 = .ok (.bipush (-2), 2) := by decide +kernel
theorem dX5_refund_79 : decode cX5_refund 79 = .ok (.ireturn, 1) := by decide +kernel
theorem dX5_refund_80 : decode cX5_refund 80 = .ok (.aload_n 0, 1) := by decide +kernel
theorem dX5_refund_81 : decode cX5_refund 81 = .ok (.invokevirtual 73, 3) := by decide +kernel
theorem dX5_refund_84 : decode cX5_refund 84 = .ok (.aload_n 0, 1) := by decide +kernel
theorem dX5_refund_85 : decode cX5_refund 85 = .ok (.iload 4, 2) := by decide +kernel
theorem dX5_refund_87 : decode cX5_refund 87 = .ok (.iconst 0, 1) := by decide +kernel
theorem dX5_refund_88 : decode cX5_refund 88 = .ok (.iload_n 2, 1) := by decide +kernel
theorem dX5_refund_89 : decode cX5_refund 89 = .ok (.ineg, 1) := by decide +kernel
theorem dX5_refund_90 : decode cX5_refund 90 = .ok (.iload_n 3, 1) := by decide +kernel
theorem dX5_refund_91 : decode cX5_refund 91 = .ok (.isub, 1) := by decide +kernel
theorem dX5_refund_92 : decode cX5_refund 92 = .ok (.invokevirtual 89, 3) := by decide +kernel
theorem dX5_refund_95 : decode cX5_refund 95 = .ok (.aload_n 0, 1) := by decide +kernel
theorem dX5_refund_96 : decode cX5_refund 96 = .ok (.iload 4, 2) := by decide +kernel
theorem dX5_refund_98 : decode cX5_refund 98 = .ok (.iconst 5, 1) := by decide +kernel
theorem dX5_refund_99 : decode cX5_refund 99 = .ok (.iload_n 2, 1) := by decide +kernel
theorem dX5_refund_100 : decode cX5_refund 100 = .ok (.invokevirtual 89, 3) := by decide +kernel
theorem dX5_refund_103 : decode cX5_refund 103 = .ok (.aload_n 0, 1) := by decide +kernel
theorem dX5_refund_104 : decode cX5_refund 104 = .ok (.iload 4, 2) := by decide +kernel
theorem dX5_refund_106 : decode cX5_refund 106 = .ok (.bipush 6, 2) := by decide +kernel
theorem dX5_refund_108 : decode cX5_refund 108 = .ok (.iload_n 3, 1) := by decide +kernel
theorem dX5_refund_109 : decode cX5_refund 109 = .ok (.invokevirtual 89, 3) := by decide +kernel
theorem dX5_refund_112 : decode cX5_refund 112 = .ok (.aload_n 0, 1) := by decide +kernel
theorem dX5_refund_113 : decode cX5_refund 113 = .ok (.getfield 7, 3) := by decide +kernel
theorem dX5_refund_116 : decode cX5_refund 116 = .ok (.sipush 129, 3) := by decide +kernel
theorem dX5_refund_119 : decode cX5_refund 119 = .ok (.bipush 7, 2) := by decide +kernel
theorem dX5_refund_121 : decode cX5_refund 121 = .ok (.iload_n 1, 1) := by decide +kernel
theorem dX5_refund_122 : decode cX5_refund 122 = .ok (.imul, 1) := by decide +kernel
theorem dX5_refund_123 : decode cX5_refund 123 = .ok (.iadd, 1) := by decide +kernel
theorem dX5_refund_124 : decode cX5_refund 124 = .ok (.iconst 5, 1) := by decide +kernel
theorem dX5_refund_125 : decode cX5_refund 125 = .ok (.iadd, 1) := by decide +kernel
theorem dX5_refund_126 : decode cX5_refund 126 = .ok (.iconst 1, 1) := by decide +kernel
theorem dX5_refund_127 : decode cX5_refund 127 = .ok (.iastore, 1) := by decide +kernel
theorem dX5_refund_128 : decode cX5_refund 128 = .ok (.iload_n 3, 1) := by decide +kernel
theorem dX5_refund_129 : decode cX5_refund 129 = .ok (.ireturn, 1) := by decide +kernel
theorem dX5_month_0 : decode cX5_month 0 = .ok (.aload_n 0, 1) := by decide +kernel
theorem dX5_month_1 : decode cX5_month 1 = .ok (.iload_n 1, 1) := by decide +kernel
theorem dX5_month_2 : decode cX5_month 2 = .ok (.bipush 7, 2) := by decide +kernel
theorem dX5_month_4 : decode cX5_month 4 = .ok (.invokevirtual 105, 3) := by decide +kernel
theorem dX5_month_7 : decode cX5_month 7 = .ok (.iconst 1, 1) := by decide +kernel
theorem dX5_month_8 : decode cX5_month 8 = .ok (.if_icmp .ne 75, 3) := by decide +kernel
theorem dX5_month_11 : decode cX5_month 11 = .ok (.aload_n 0, 1) := by decide +kernel
theorem dX5_month_12 : decode cX5_month 12 = .ok (.iload_n 1, 1) := by decide +kernel
theorem dX5_month_13 : decode cX5_month 13 = .ok (.bipush 7, 2) := by decide +kernel
theorem dX5_month_15 : decode cX5_month 15 = .ok (.iconst 0, 1) := by decide +kernel
theorem dX5_month_16 : decode cX5_month 16 = .ok (.invokevirtual 99, 3) := by decide +kernel
theorem dX5_month_19 : decode cX5_month 19 = .ok (.aload_n 0, 1) := by decide +kernel
theorem dX5_month_20 : decode cX5_month 20 = .ok (.iload_n 1, 1) := by decide +kernel
theorem dX5_month_21 : decode cX5_month 21 = .ok (.iconst 4, 1) := by decide +kernel
theorem dX5_month_22 : decode cX5_month 22 = .ok (.aload_n 0, 1) := by decide +kernel
theorem dX5_month_23 : decode cX5_month 23 = .ok (.iload_n 1, 1) := by decide +kernel
theorem dX5_month_24 : decode cX5_month 24 = .ok (.iconst 4, 1) := by decide +kernel
theorem dX5_month_25 : decode cX5_month 25 = .ok (.invokevirtual 105, 3) := by decide +kernel
theorem dX5_month_28 : decode cX5_month 28 = .ok (.iconst 1, 1) := by decide +kernel
theorem dX5_month_29 : decode cX5_month 29 = .ok (.iadd, 1) := by decide +kernel
theorem dX5_month_30 : decode cX5_month 30 = .ok (.invokevirtual 99, 3) := by decide +kernel
theorem dX5_month_33 : decode cX5_month 33 = .ok (.aload_n 0, 1) := by decide +kernel
theorem dX5_month_34 : decode cX5_month 34 = .ok (.iload_n 1, 1) := by decide +kernel
theorem dX5_month_35 : decode cX5_month 35 = .ok (.iconst 3, 1) := by decide +kernel
theorem dX5_month_36 : decode cX5_month 36 = .ok (.aload_n 0, 1) := by decide +kernel
theorem dX5_month_37 : decode cX5_month 37 = .ok (.iload_n 1, 1) := by decide +kernel
theorem dX5_month_38 : decode cX5_month 38 = .ok (.iconst 3, 1) := by decide +kernel
theorem dX5_month_39 : decode cX5_month 39 = .ok (.invokevirtual 105, 3) := by decide +kernel
theorem dX5_month_42 : decode cX5_month 42 = .ok (.iconst 1, 1) := by decide +kernel
theorem dX5_month_43 : decode cX5_month 43 = .ok (.isub, 1) := by decide +kernel
theorem dX5_month_44 : decode cX5_month 44 = .ok (.invokevirtual 99, 3) := by decide +kernel
theorem dX5_month_47 : decode cX5_month 47 = .ok (.aload_n 0, 1) := by decide +kernel
theorem dX5_month_48 : decode cX5_month 48 = .ok (.iload_n 1, 1) := by decide +kernel
theorem dX5_month_49 : decode cX5_month 49 = .ok (.iconst 4, 1) := by decide +kernel
theorem dX5_month_50 : decode cX5_month 50 = .ok (.invokevirtual 105, 3) := by decide +kernel
theorem dX5_month_53 : decode cX5_month 53 = .ok (.iconst 3, 1) := by decide +kernel
theorem dX5_month_54 : decode cX5_month 54 = .ok (.if_icmp .ne 12, 3) := by decide +kernel
theorem dX5_month_57 : decode cX5_month 57 = .ok (.aload_n 0, 1) := by decide +kernel
theorem dX5_month_58 : decode cX5_month 58 = .ok (.iload_n 1, 1) := by decide +kernel
theorem dX5_month_59 : decode cX5_month 59 = .ok (.iconst 3, 1) := by decide +kernel
theorem dX5_month_60 : decode cX5_month 60 = .ok (.invokevirtual 108, 3) := by decide +kernel
theorem dX5_month_63 : decode cX5_month 63 = .ok (.goto 18, 3) := by decide +kernel
theorem dX5_month_66 : decode cX5_month 66 = .ok (.aload_n 0, 1) := by decide +kernel
theorem dX5_month_67 : decode cX5_month 67 = .ok (.iload_n 1, 1) := by decide +kernel
theorem dX5_month_68 : decode cX5_month 68 = .ok (.iconst 3, 1) := by decide +kernel
theorem dX5_month_69 : decode cX5_month 69 = .ok (.invokevirtual 105, 3) := by decide +kernel
theorem dX5_month_72 : decode cX5_month 72 = .ok (.ifCond .ne 9, 3) := by decide +kernel
theorem dX5_month_75 : decode cX5_month 75 = .ok (.aload_n 0, 1) := by decide +kernel
theorem dX5_month_76 : decode cX5_month 76 = .ok (.iload_n 1, 1) := by decide +kernel
theorem dX5_month_77 : decode cX5_month 77 = .ok (.iconst 1, 1) := by decide +kernel
theorem dX5_month_78 : decode cX5_month 78 = .ok (.invokevirtual 108, 3) := by decide +kernel
theorem dX5_month_81 : decode cX5_month 81 = .ok (.iconst 0, 1) := by decide +kernel
theorem dX5_month_82 : decode cX5_month 82 = .ok (.ireturn, 1) := by decide +kernel
theorem dX5_month_83 : decode cX5_month 83 = .ok (.aload_n 0, 1) := by decide +kernel
theorem dX5_month_84 : decode cX5_month 84 = .ok (.getfield 7, 3) := by decide +kernel
theorem dX5_month_87 : decode cX5_month 87 = .ok (.iconst 4, 1) := by decide +kernel
theorem dX5_month_88 : decode cX5_month 88 = .ok (.iaload, 1) := by decide +kernel
theorem dX5_month_89 : decode cX5_month 89 = .ok (.bipush 24, 2) := by decide +kernel
theorem dX5_month_91 : decode cX5_month 91 = .ok (.if_icmp .ne 25, 3) := by decide +kernel
theorem dX5_month_94 : decode cX5_month 94 = .ok (.aload_n 0, 1) := by decide +kernel
theorem dX5_month_95 : decode cX5_month 95 = .ok (.iload_n 1, 1) := by decide +kernel
theorem dX5_month_96 : decode cX5_month 96 = .ok (.iconst 3, 1) := by decide +kernel
theorem dX5_month_97 : decode cX5_month 97 = .ok (.aload_n 0, 1) := by decide +kernel
theorem dX5_month_98 : decode cX5_month 98 = .ok (.iload_n 1, 1) := by decide +kernel
theorem dX5_month_99 : decode cX5_month 99 = .ok (.iconst 3, 1) := by decide +kernel
theorem dX5_month_100 : decode cX5_month 100 = .ok (.invokevirtual 105, 3) := by decide +kernel
theorem dX5_month_103 : decode cX5_month 103 = .ok (.iconst 1, 1) := by decide +kernel
theorem dX5_month_104 : decode cX5_month 104 = .ok (.isub, 1) := by decide +kernel
theorem dX5_month_105 : decode cX5_month 105 = .ok (.invokevirtual 99, 3) := by decide +kernel
theorem dX5_month_108 : decode cX5_month 108 = .ok (.aload_n 0, 1) := by decide +kernel
theorem dX5_month_109 : decode cX5_month 109 = .ok (.iload_n 1, 1) := by decide +kernel
theorem dX5_month_110 : decode cX5_month 110 = .ok (.iconst 3, 1) := by decide +kernel
theorem dX5_month_111 : decode cX5_month 111 = .ok (.invokevirtual 108, 3) := by decide +kernel
theorem dX5_month_114 : decode cX5_month 114 = .ok (.iconst 0, 1) := by decide +kernel
theorem dX5_month_115 : decode cX5_month 115 = .ok (.ireturn, 1) := by decide +kernel
theorem dX5_month_116 : decode cX5_month 116 = .ok (.aload_n 0, 1) := by decide +kernel
theorem dX5_month_117 : decode cX5_month 117 = .ok (.aload_n 0, 1) := by decide +kernel
theorem dX5_month_118 : decode cX5_month 118 = .ok (.iload_n 1, 1) := by decide +kernel
theorem dX5_month_119 : decode cX5_month 119 = .ok (.iconst 0, 1) := by decide +kernel
theorem dX5_month_120 : decode cX5_month 120 = .ok (.invokevirtual 105, 3) := by decide +kernel
theorem dX5_month_123 : decode cX5_month 123 = .ok (.aload_n 0, 1) := by decide +kernel
theorem dX5_month_124 : decode cX5_month 124 = .ok (.iload_n 1, 1) := by decide +kernel
theorem dX5_month_125 : decode cX5_month 125 = .ok (.iconst 1, 1) := by decide +kernel
theorem dX5_month_126 : decode cX5_month 126 = .ok (.invokevirtual 105, 3) := by decide +kernel
theorem dX5_month_129 : decode cX5_month 129 = .ok (.aload_n 0, 1) := by decide +kernel
theorem dX5_month_130 : decode cX5_month 130 = .ok (.iload_n 1, 1) := by decide +kernel
theorem dX5_month_131 : decode cX5_month 131 = .ok (.iconst 2, 1) := by decide +kernel
theorem dX5_month_132 : decode cX5_month 132 = .ok (.invokevirtual 105, 3) := by decide +kernel
theorem dX5_month_135 : decode cX5_month 135 = .ok (.iload_n 1, 1) := by decide +kernel
theorem dX5_month_136 : decode cX5_month 136 = .ok (.invokevirtual 95, 3) := by decide +kernel
theorem dX5_month_139 : decode cX5_month 139 = .ok (.pop, 1) := by decide +kernel
theorem dX5_month_140 : decode cX5_month 140 = .ok (.aload_n 0, 1) := by decide +kernel
theorem dX5_month_141 : decode cX5_month 141 = .ok (.iload_n 1, 1) := by decide +kernel
theorem dX5_month_142 : decode cX5_month 142 = .ok (.bipush 6, 2) := by decide +kernel
theorem dX5_month_144 : decode cX5_month 144 = .ok (.aload_n 0, 1) := by decide +kernel
theorem dX5_month_145 : decode cX5_month 145 = .ok (.iload_n 1, 1) := by decide +kernel
theorem dX5_month_146 : decode cX5_month 146 = .ok (.bipush 6, 2) := by decide +kernel
theorem dX5_month_148 : decode cX5_month 148 = .ok (.invokevirtual 105, 3) := by decide +kernel
theorem dX5_month_151 : decode cX5_month 151 = .ok (.iconst 1, 1) := by decide +kernel
theorem dX5_month_152 : decode cX5_month 152 = .ok (.iadd, 1) := by decide +kernel
theorem dX5_month_153 : decode cX5_month 153 = .ok (.invokevirtual 99, 3) := by decide +kernel
theorem dX5_month_156 : decode cX5_month 156 = .ok (.aload_n 0, 1) := by decide +kernel
theorem dX5_month_157 : decode cX5_month 157 = .ok (.iload_n 1, 1) := by decide +kernel
theorem dX5_month_158 : decode cX5_month 158 = .ok (.iconst 3, 1) := by decide +kernel
theorem dX5_month_159 : decode cX5_month 159 = .ok (.aload_n 0, 1) := by decide +kernel
theorem dX5_month_160 : decode cX5_month 160 = .ok (.iload_n 1, 1) := by decide +kernel
theorem dX5_month_161 : decode cX5_month 161 = .ok (.iconst 3, 1) := by decide +kernel
theorem dX5_month_162 : decode cX5_month 162 = .ok (.invokevirtual 105, 3) := by decide +kernel
theorem dX5_month_165 : decode cX5_month 165 = .ok (.iconst 1, 1) := by decide +kernel
theorem dX5_month_166 : decode cX5_month 166 = .ok (.isub, 1) := by decide +kernel
theorem dX5_month_167 : decode cX5_month 167 = .ok (.invokevirtual 99, 3) := by decide +kernel
theorem dX5_month_170 : decode cX5_month 170 = .ok (.aload_n 0, 1) := by decide +kernel
theorem dX5_month_171 : decode cX5_month 171 = .ok (.iload_n 1, 1) := by decide +kernel
theorem dX5_month_172 : decode cX5_month 172 = .ok (.iconst 3, 1) := by decide +kernel
theorem dX5_month_173 : decode cX5_month 173 = .ok (.invokevirtual 105, 3) := by decide +kernel
theorem dX5_month_176 : decode cX5_month 176 = .ok (.ifCond .ne 9, 3) := by decide +kernel
theorem dX5_month_179 : decode cX5_month 179 = .ok (.aload_n 0, 1) := by decide +kernel
theorem dX5_month_180 : decode cX5_month 180 = .ok (.iload_n 1, 1) := by decide +kernel
theorem dX5_month_181 : decode cX5_month 181 = .ok (.iconst 1, 1) := by decide +kernel
theorem dX5_month_182 : decode cX5_month 182 = .ok (.invokevirtual 108, 3) := by decide +kernel
theorem dX5_month_185 : decode cX5_month 185 = .ok (.iconst 1, 1) := by decide +kernel
theorem dX5_month_186 : decode cX5_month 186 = .ok (.ireturn, 1) := by decide +kernel
theorem dX5_goes_0 : decode cX5_goes 0 = .ok (.iconst 0, 1) := by decide +kernel
theorem dX5_goes_1 : decode cX5_goes 1 = .ok (.istore_n 2, 1) := by decide +kernel
theorem dX5_goes_2 : decode cX5_goes 2 = .ok (.iconst 0, 1) := by decide +kernel
theorem dX5_goes_3 : decode cX5_goes 3 = .ok (.istore_n 3, 1) := by decide +kernel
theorem dX5_goes_4 : decode cX5_goes 4 = .ok (.iload_n 3, 1) := by decide +kernel
theorem dX5_goes_5 : decode cX5_goes 5 = .ok (.iload_n 1, 1) := by decide +kernel
theorem dX5_goes_6 : decode cX5_goes 6 = .ok (.if_icmp .ge 63, 3) := by decide +kernel
theorem dX5_goes_9 : decode cX5_goes 9 = .ok (.aload_n 0, 1) := by decide +kernel
theorem dX5_goes_10 : decode cX5_goes 10 = .ok (.getfield 7, 3) := by decide +kernel
theorem dX5_goes_13 : decode cX5_goes 13 = .ok (.bipush 6, 2) := by decide +kernel
theorem dX5_goes_15 : decode cX5_goes 15 = .ok (.dup2, 1) := by decide +kernel
theorem dX5_goes_16 : decode cX5_goes 16 = .ok (.iaload, 1) := by decide +kernel
theorem dX5_goes_17 : decode cX5_goes 17 = .ok (.iconst 1, 1) := by decide +kernel
theorem dX5_goes_18 : decode cX5_goes 18 = .ok (.iadd, 1) := by decide +kernel
theorem dX5_goes_19 : decode cX5_goes 19 = .ok (.iastore, 1) := by decide +kernel
theorem dX5_goes_20 : decode cX5_goes 20 = .ok (.iconst 0, 1) := by decide +kernel
theorem dX5_goes_21 : decode cX5_goes 21 = .ok (.istore 4, 2) := by decide +kernel
theorem dX5_goes_23 : decode cX5_goes 23 = .ok (.iload 4, 2) := by decide +kernel
theorem dX5_goes_25 : decode cX5_goes 25 = .ok (.aload_n 0, 1) := by decide +kernel
theorem dX5_goes_26 : decode cX5_goes 26 = .ok (.getfield 7, 3) := by decide +kernel
theorem dX5_goes_29 : decode cX5_goes 29 = .ok (.iconst 5, 1) := by decide +kernel
theorem dX5_goes_30 : decode cX5_goes 30 = .ok (.iaload, 1) := by decide +kernel
theorem dX5_goes_31 : decode cX5_goes 31 = .ok (.if_icmp .ge 32, 3) := by decide +kernel
theorem dX5_goes_34 : decode cX5_goes 34 = .ok (.iload_n 2, 1) := by decide +kernel
theorem dX5_goes_35 : decode cX5_goes 35 = .ok (.aload_n 0, 1) := by decide +kernel
theorem dX5_goes_36 : decode cX5_goes 36 = .ok (.iload 4, 2) := by decide +kernel
theorem dX5_goes_38 : decode cX5_goes 38 = .ok (.iconst 5, 1) := by decide +kernel
theorem dX5_goes_39 : decode cX5_goes 39 = .ok (.invokevirtual 105, 3) := by decide +kernel
theorem dX5_goes_42 : decode cX5_goes 42 = .ok (.ifCond .ne 12, 3) := by decide +kernel
theorem dX5_goes_45 : decode cX5_goes 45 = .ok (.aload_n 0, 1) := by decide +kernel
theorem dX5_goes_46 : decode cX5_goes 46 = .ok (.iload 4, 2) := by decide +kernel
theorem dX5_goes_48 : decode cX5_goes 48 = .ok (.invokevirtual 145, 3) := by decide +kernel
theorem dX5_goes_51 : decode cX5_goes 51 = .ok (.goto 4, 3) := by decide +kernel
theorem dX5_goes_54 : decode cX5_goes 54 = .ok (.iconst 0, 1) := by decide +kernel
theorem dX5_goes_55 : decode cX5_goes 55 = .ok (.iadd, 1) := by decide +kernel
theorem dX5_goes_56 : decode cX5_goes 56 = .ok (.istore_n 2, 1) := by decide +kernel
theorem dX5_goes_57 : decode cX5_goes 57 = .ok (.iinc 4 1, 3) := by decide +kernel
theorem dX5_goes_60 : decode cX5_goes 60 = .ok (.goto (-37), 3) := by decide +kernel
theorem dX5_goes_63 : decode cX5_goes 63 = .ok (.iinc 3 1, 3) := by decide +kernel
theorem dX5_goes_66 : decode cX5_goes 66 = .ok (.goto (-62), 3) := by decide +kernel
theorem dX5_goes_69 : decode cX5_goes 69 = .ok (.iload_n 2, 1) := by decide +kernel
theorem dX5_goes_70 : decode cX5_goes 70 = .ok (.ireturn, 1) := by decide +kernel
theorem dX5_pass_0 : decode cX5_pass 0 = .ok (.iload_n 1, 1) := by decide +kernel
theorem dX5_pass_1 : decode cX5_pass 1 = .ok (.iconst 1, 1) := by decide +kernel
theorem dX5_pass_2 : decode cX5_pass 2 = .ok (.bipush 60, 2) := by decide +kernel
theorem dX5_pass_4 : decode cX5_pass 4 = .ok (.invokestatic 82, 3) := by decide +kernel
theorem dX5_pass_7 : decode cX5_pass 7 = .ok (.ifCond .ne 5, 3) := by decide +kernel
theorem dX5_pass_10 : decode cX5_pass 10 = .ok (.iconst (-1), 1) := by decide +kernel
theorem dX5_pass_11 : decode cX5_pass 11 = .ok (.ireturn, 1) := by decide +kernel
theorem dX5_pass_12 : decode cX5_pass 12 = .ok (.aload_n 0, 1) := by decide +kernel
theorem dX5_pass_13 : decode cX5_pass 13 = .ok (.getfield 7, 3) := by decide +kernel
theorem dX5_pass_16 : decode cX5_pass 16 = .ok (.bipush 6, 2) := by decide +kernel
theorem dX5_pass_18 : decode cX5_pass 18 = .ok (.iaload, 1) := by decide +kernel
theorem dX5_pass_19 : decode cX5_pass 19 = .ok (.iload_n 1, 1) := by decide +kernel
theorem dX5_pass_20 : decode cX5_pass 20 = .ok (.iadd, 1) := by decide +kernel
theorem dX5_pass_21 : decode cX5_pass 21 = .ok (.sipush 999, 3) := by decide +kernel
theorem dX5_pass_24 : decode cX5_pass 24 = .ok (.if_icmp .le 6, 3) := by decide +kernel
theorem dX5_pass_27 : decode cX5_pass 27 = .ok (.bipush (-3), 2) := by decide +kernel
theorem dX5_pass_29 : decode cX5_pass 29 = .ok (.ireturn, 1) := by decide +kernel
theorem dX5_pass_30 : decode cX5_pass 30 = .ok (.aload_n 0, 1) := by decide +kernel
theorem dX5_pass_31 : decode cX5_pass 31 = .ok (.invokevirtual 73, 3) := by decide +kernel
theorem dX5_pass_34 : decode cX5_pass 34 = .ok (.aload_n 0, 1) := by decide +kernel
theorem dX5_pass_35 : decode cX5_pass 35 = .ok (.iload_n 1, 1) := by decide +kernel
theorem dX5_pass_36 : decode cX5_pass 36 = .ok (.invokevirtual 148, 3) := by decide +kernel
theorem dX5_pass_39 : decode cX5_pass 39 = .ok (.ireturn, 1) := by decide +kernel
theorem dX5_set_0 : decode cX5_set 0 = .ok (.iload_n 1, 1) := by decide +kernel
theorem dX5_set_1 : decode cX5_set 1 = .ok (.iconst 0, 1) := by decide +kernel
theorem dX5_set_2 : decode cX5_set 2 = .ok (.iconst 1, 1) := by decide +kernel
theorem dX5_set_3 : decode cX5_set 3 = .ok (.invokestatic 82, 3) := by decide +kernel
theorem dX5_set_6 : decode cX5_set 6 = .ok (.ifCond .eq 30, 3) := by decide +kernel
theorem dX5_set_9 : decode cX5_set 9 = .ok (.iload_n 2, 1) := by decide +kernel
theorem dX5_set_10 : decode cX5_set 10 = .ok (.iload_n 1, 1) := by decide +kernel
theorem dX5_set_11 : decode cX5_set 11 = .ok (.ifCond .ne 7, 3) := by decide +kernel
theorem dX5_set_14 : decode cX5_set 14 = .ok (.iconst 1, 1) := by decide +kernel
theorem dX5_set_15 : decode cX5_set 15 = .ok (.goto 4, 3) := by decide +kernel
theorem dX5_set_18 : decode cX5_set 18 = .ok (.iconst 0, 1) := by decide +kernel
theorem dX5_set_19 : decode cX5_set 19 = .ok (.iload_n 1, 1) := by decide +kernel
theorem dX5_set_20 : decode cX5_set 20 = .ok (.ifCond .ne 8, 3) := by decide +kernel
theorem dX5_set_23 : decode cX5_set 23 = .ok (.bipush 100, 2) := by decide +kernel
theorem dX5_set_25 : decode cX5_set 25 = .ok (.goto 5, 3) := by decide +kernel
theorem dX5_set_28 : decode cX5_set 28 = .ok (.ldc 151, 2) := by decide +kernel
theorem dX5_set_30 : decode cX5_set 30 = .ok (.invokestatic 82, 3) := by decide +kernel
theorem dX5_set_33 : decode cX5_set 33 = .ok (.ifCond .ne 5, 3) := by decide +kernel
theorem dX5_set_36 : decode cX5_set 36 = .ok (.iconst (-1), 1) := by decide +kernel
theorem dX5_set_37 : decode cX5_set 37 = .ok (.ireturn, 1) := by decide +kernel
theorem dX5_set_38 : decode cX5_set 38 = .ok (.aload_n 0, 1) := by decide +kernel
theorem dX5_set_39 : decode cX5_set 39 = .ok (.invokevirtual 73, 3) := by decide +kernel
theorem dX5_set_42 : decode cX5_set 42 = .ok (.aload_n 0, 1) := by decide +kernel
theorem dX5_set_43 : decode cX5_set 43 = .ok (.getfield 7, 3) := by decide +kernel
theorem dX5_set_46 : decode cX5_set 46 = .ok (.iload_n 1, 1) := by decide +kernel
theorem dX5_set_47 : decode cX5_set 47 = .ok (.iaload, 1) := by decide +kernel
theorem dX5_set_48 : decode cX5_set 48 = .ok (.istore_n 3, 1) := by decide +kernel
theorem dX5_set_49 : decode cX5_set 49 = .ok (.aload_n 0, 1) := by decide +kernel
theorem dX5_set_50 : decode cX5_set 50 = .ok (.getfield 7, 3) := by decide +kernel
theorem dX5_set_53 : decode cX5_set 53 = .ok (.iload_n 1, 1) := by decide +kernel
theorem dX5_set_54 : decode cX5_set 54 = .ok (.iload_n 2, 1) := by decide +kernel
theorem dX5_set_55 : decode cX5_set 55 = .ok (.iastore, 1) := by decide +kernel
theorem dX5_set_56 : decode cX5_set 56 = .ok (.iload_n 3, 1) := by decide +kernel
theorem dX5_set_57 : decode cX5_set 57 = .ok (.ireturn, 1) := by decide +kernel
theorem dX5_purposeOf_0 : decode cX5_purposeOf 0 = .ok (.aload_n 0, 1) := by decide +kernel
theorem dX5_purposeOf_1 : decode cX5_purposeOf 1 = .ok (.iload_n 1, 1) := by decide +kernel
theorem dX5_purposeOf_2 : decode cX5_purposeOf 2 = .ok (.invokevirtual 92, 3) := by decide +kernel
theorem dX5_purposeOf_5 : decode cX5_purposeOf 5 = .ok (.ifCond .eq 13, 3) := by decide +kernel
theorem dX5_purposeOf_8 : decode cX5_purposeOf 8 = .ok (.iload_n 2, 1) := by decide +kernel
theorem dX5_purposeOf_9 : decode cX5_purposeOf 9 = .ok (.iconst 0, 1) := by decide +kernel
theorem dX5_purposeOf_10 : decode cX5_purposeOf 10 = .ok (.bipush 11, 2) := by decide +kernel
theorem dX5_purposeOf_12 : decode cX5_purposeOf 12 = .ok (.invokestatic 82, 3) := by decide +kernel
theorem dX5_purposeOf_15 : decode cX5_purposeOf 15 = .ok (.ifCond .ne 5, 3) := by decide +kernel
theorem dX5_purposeOf_18 : decode cX5_purposeOf 18 = .ok (.iconst (-1), 1) := by decide +kernel
theorem dX5_purposeOf_19 : decode cX5_purposeOf 19 = .ok (.ireturn, 1) := by decide +kernel
theorem dX5_purposeOf_20 : decode cX5_purposeOf 20 = .ok (.iload_n 2, 1) := by decide +kernel
theorem dX5_purposeOf_21 : decode cX5_purposeOf 21 = .ok (.bipush 10, 2) := by decide +kernel
theorem dX5_purposeOf_23 : decode cX5_purposeOf 23 = .ok (.if_icmp .ne 11, 3) := by decide +kernel
theorem dX5_purposeOf_26 : decode cX5_purposeOf 26 = .ok (.aload_n 0, 1) := by decide +kernel
theorem dX5_purposeOf_27 : decode cX5_purposeOf 27 = .ok (.iload_n 1, 1) := by decide +kernel
theorem dX5_purposeOf_28 : decode cX5_purposeOf 28 = .ok (.invokevirtual 125, 3) := by decide +kernel
theorem dX5_purposeOf_31 : decode cX5_purposeOf 31 = .ok (.goto 20, 3) := by decide +kernel
theorem dX5_purposeOf_34 : decode cX5_purposeOf 34 = .ok (.aload_n 0, 1) := by decide +kernel
theorem dX5_purposeOf_35 : decode cX5_purposeOf 35 = .ok (.iload_n 1, 1) := by decide +kernel
theorem dX5_purposeOf_36 : decode cX5_purposeOf 36 = .ok (.iload_n 2, 1) := by decide +kernel
theorem dX5_purposeOf_37 : decode cX5_purposeOf 37 = .ok (.bipush 11, 2) := by decide +kernel
theorem dX5_purposeOf_39 : decode cX5_purposeOf 39 = .ok (.if_icmp .ne 8, 3) := by decide +kernel
theorem dX5_purposeOf_42 : decode cX5_purposeOf 42 = .ok (.bipush 10, 2) := by decide +kernel
theorem dX5_purposeOf_44 : decode cX5_purposeOf 44 = .ok (.goto 4, 3) := by decide +kernel
theorem dX5_purposeOf_47 : decode cX5_purposeOf 47 = .ok (.iload_n 2, 1) := by decide +kernel
theorem dX5_purposeOf_48 : decode cX5_purposeOf 48 = .ok (.invokevirtual 65, 3) := by decide +kernel
theorem dX5_purposeOf_51 : decode cX5_purposeOf 51 = .ok (.ireturn, 1) := by decide +kernel
theorem dX5_given_0 : decode cX5_given 0 = .ok (.iconst 0, 1) := by decide +kernel
theorem dX5_given_1 : decode cX5_given 1 = .ok (.istore_n 3, 1) := by decide +kernel
theorem dX5_given_2 : decode cX5_given 2 = .ok (.iconst 0, 1) := by decide +kernel
theorem dX5_given_3 : decode cX5_given 3 = .ok (.istore 4, 2) := by decide +kernel
theorem dX5_given_5 : decode cX5_given 5 = .ok (.iload 4, 2) := by decide +kernel
theorem dX5_given_7 : decode cX5_given 7 = .ok (.aload_n 0, 1) := by decide +kernel
theorem dX5_given_8 : decode cX5_given 8 = .ok (.getfield 7, 3) := by decide +kernel
theorem dX5_given_11 : decode cX5_given 11 = .ok (.iconst 4, 1) := by decide +kernel
theorem dX5_given_12 : decode cX5_given 12 = .ok (.iaload, 1) := by decide +kernel
theorem dX5_given_13 : decode cX5_given 13 = .ok (.if_icmp .ge 92, 3) := by decide +kernel
theorem dX5_given_16 : decode cX5_given 16 = .ok (.iload_n 2, 1) := by decide +kernel
theorem dX5_given_17 : decode cX5_given 17 = .ok (.ifCond .eq 45, 3) := by decide +kernel
theorem dX5_given_20 : decode cX5_given 20 = .ok (.iload_n 2, 1) := by decide +kernel
theorem dX5_given_21 : decode cX5_given 21 = .ok (.iconst 1, 1) := by decide +kernel
theorem dX5_given_22 : decode cX5_given 22 = .ok (.if_icmp .ne 14, 3) := by decide +kernel
theorem dX5_given_25 : decode cX5_given 25 = .ok (.aload_n 0, 1) := by decide +kernel
theorem dX5_given_26 : decode cX5_given 26 = .ok (.iload 4, 2) := by decide +kernel
theorem dX5_given_28 : decode cX5_given 28 = .ok (.iconst 5, 1) := by decide +kernel
theorem dX5_given_29 : decode cX5_given 29 = .ok (.invokevirtual 112, 3) := by decide +kernel
theorem dX5_given_32 : decode cX5_given 32 = .ok (.iconst 1, 1) := by decide +kernel
theorem dX5_given_33 : decode cX5_given 33 = .ok (.if_icmp .eq 29, 3) := by decide +kernel
theorem dX5_given_36 : decode cX5_given 36 = .ok (.iload_n 2, 1) := by decide +kernel
theorem dX5_given_37 : decode cX5_given 37 = .ok (.iconst 2, 1) := by decide +kernel
theorem dX5_given_38 : decode cX5_given 38 = .ok (.if_icmp .ne 28, 3) := by decide +kernel
theorem dX5_given_41 : decode cX5_given 41 = .ok (.aload_n 0, 1) := by decide +kernel
theorem dX5_given_42 : decode cX5_given 42 = .ok (.iload 4, 2) := by decide +kernel
theorem dX5_given_44 : decode cX5_given 44 = .ok (.iconst 4, 1) := by decide +kernel
theorem dX5_given_45 : decode cX5_given 45 = .ok (.invokevirtual 112, 3) := by decide +kernel
theorem dX5_given_48 : decode cX5_given 48 = .ok (.iconst 1, 1) := by decide +kernel
theorem dX5_given_49 : decode cX5_given 49 = .ok (.if_icmp .ne 17, 3) := by decide +kernel
theorem dX5_given_52 : decode cX5_given 52 = .ok (.aload_n 0, 1) := by decide +kernel
theorem dX5_given_53 : decode cX5_given 53 = .ok (.iload 4, 2) := by decide +kernel
theorem dX5_given_55 : decode cX5_given 55 = .ok (.iconst 5, 1) := by decide +kernel
theorem dX5_given_56 : decode cX5_given 56 = .ok (.invokevirtual 112, 3) := by decide +kernel
theorem dX5_given_59 : decode cX5_given 59 = .ok (.ifCond .ne 7, 3) := by decide +kernel
theorem dX5_given_62 : decode cX5_given 62 = .ok (.iconst 1, 1) := by decide +kernel
theorem dX5_given_63 : decode cX5_given 63 = .ok (.goto 4, 3) := by decide +kernel
theorem dX5_given_66 : decode cX5_given 66 = .ok (.iconst 0, 1) := by decide +kernel
theorem dX5_given_67 : decode cX5_given 67 = .ok (.istore 5, 2) := by decide +kernel
theorem dX5_given_69 : decode cX5_given 69 = .ok (.iload_n 3, 1) := by decide +kernel
theorem dX5_given_70 : decode cX5_given 70 = .ok (.iload 5, 2) := by decide +kernel
theorem dX5_given_72 : decode cX5_given 72 = .ok (.ifCond .eq 24, 3) := by decide +kernel
theorem dX5_given_75 : decode cX5_given 75 = .ok (.aload_n 0, 1) := by decide +kernel
theorem dX5_given_76 : decode cX5_given 76 = .ok (.iload 4, 2) := by decide +kernel
theorem dX5_given_78 : decode cX5_given 78 = .ok (.iconst 0, 1) := by decide +kernel
theorem dX5_given_79 : decode cX5_given 79 = .ok (.invokevirtual 112, 3) := by decide +kernel
theorem dX5_given_82 : decode cX5_given 82 = .ok (.iload_n 1, 1) := by decide +kernel
theorem dX5_given_83 : decode cX5_given 83 = .ok (.if_icmp .ne 13, 3) := by decide +kernel
theorem dX5_given_86 : decode cX5_given 86 = .ok (.aload_n 0, 1) := by decide +kernel
theorem dX5_given_87 : decode cX5_given 87 = .ok (.iload 4, 2) := by decide +kernel
theorem dX5_given_89 : decode cX5_given 89 = .ok (.iconst 2, 1) := by decide +kernel
theorem dX5_given_90 : decode cX5_given 90 = .ok (.invokevirtual 112, 3) := by decide +kernel
theorem dX5_given_93 : decode cX5_given 93 = .ok (.goto 4, 3) := by decide +kernel
theorem dX5_given_96 : decode cX5_given 96 = .ok (.iconst 0, 1) := by decide +kernel
theorem dX5_given_97 : decode cX5_given 97 = .ok (.iadd, 1) := by decide +kernel
theorem dX5_given_98 : decode cX5_given 98 = .ok (.istore_n 3, 1) := by decide +kernel
theorem dX5_given_99 : decode cX5_given 99 = .ok (.iinc 4 1, 3) := by decide +kernel
theorem dX5_given_102 : decode cX5_given 102 = .ok (.goto (-97), 3) := by decide +kernel
theorem dX5_given_105 : decode cX5_given 105 = .ok (.iload_n 3, 1) := by decide +kernel
theorem dX5_given_106 : decode cX5_given 106 = .ok (.ireturn, 1) := by decide +kernel
theorem dX5_running_0 : decode cX5_running 0 = .ok (.iconst 0, 1) := by decide +kernel
theorem dX5_running_1 : decode cX5_running 1 = .ok (.istore_n 2, 1) := by decide +kernel
theorem dX5_running_2 : decode cX5_running 2 = .ok (.iconst 0, 1) := by decide +kernel
theorem dX5_running_3 : decode cX5_running 3 = .ok (.istore_n 3, 1) := by decide +kernel
theorem dX5_running_4 : decode cX5_running 4 = .ok (.iload_n 3, 1) := by decide +kernel
theorem dX5_running_5 : decode cX5_running 5 = .ok (.aload_n 0, 1) := by decide +kernel
theorem dX5_running_6 : decode cX5_running 6 = .ok (.getfield 7, 3) := by decide +kernel
theorem dX5_running_9 : decode cX5_running 9 = .ok (.iconst 5, 1) := by decide +kernel
theorem dX5_running_10 : decode cX5_running 10 = .ok (.iaload, 1) := by decide +kernel
theorem dX5_running_11 : decode cX5_running 11 = .ok (.if_icmp .ge 38, 3) := by decide +kernel
theorem dX5_running_14 : decode cX5_running 14 = .ok (.iload_n 2, 1) := by decide +kernel
theorem dX5_running_15 : decode cX5_running 15 = .ok (.aload_n 0, 1) := by decide +kernel
theorem dX5_running_16 : decode cX5_running 16 = .ok (.iload_n 3, 1) := by decide +kernel
theorem dX5_running_17 : decode cX5_running 17 = .ok (.iconst 0, 1) := by decide +kernel
theorem dX5_running_18 : decode cX5_running 18 = .ok (.invokevirtual 105, 3) := by decide +kernel
theorem dX5_running_21 : decode cX5_running 21 = .ok (.iload_n 1, 1) := by decide +kernel
theorem dX5_running_22 : decode cX5_running 22 = .ok (.if_icmp .ne 18, 3) := by decide +kernel
theorem dX5_running_25 : decode cX5_running 25 = .ok (.aload_n 0, 1) := by decide +kernel
theorem dX5_running_26 : decode cX5_running 26 = .ok (.iload_n 3, 1) := by decide +kernel
theorem dX5_running_27 : decode cX5_running 27 = .ok (.iconst 5, 1) := by decide +kernel
theorem dX5_running_28 : decode cX5_running 28 = .ok (.invokevirtual 105, 3) := by decide +kernel
theorem dX5_running_31 : decode cX5_running 31 = .ok (.ifCond .ne 9, 3) := by decide +kernel
theorem dX5_running_34 : decode cX5_running 34 = .ok (.iconst 1, 1) := by decide +kernel
theorem dX5_running_35 : decode cX5_running 35 = .ok (.iload_n 3, 1) := by decide +kernel
theorem dX5_running_36 : decode cX5_running 36 = .ok (.ishl, 1) := by decide +kernel
theorem dX5_running_37 : decode cX5_running 37 = .ok (.goto 4, 3) := by decide +kernel
theorem dX5_running_40 : decode cX5_running 40 = .ok (.iconst 0, 1) := by decide +kernel
theorem dX5_running_41 : decode cX5_running 41 = .ok (.ior, 1) := by decide +kernel
theorem dX5_running_42 : decode cX5_running 42 = .ok (.istore_n 2, 1) := by decide +kernel
theorem dX5_running_43 : decode cX5_running 43 = .ok (.iinc 3 1, 3) := by decide +kernel
theorem dX5_running_46 : decode cX5_running 46 = .ok (.goto (-42), 3) := by decide +kernel
theorem dX5_running_49 : decode cX5_running 49 = .ok (.iload_n 2, 1) := by decide +kernel
theorem dX5_running_50 : decode cX5_running 50 = .ok (.ireturn, 1) := by decide +kernel
theorem dX5_donorOf_0 : decode cX5_donorOf 0 = .ok (.aload_n 0, 1) := by decide +kernel
theorem dX5_donorOf_1 : decode cX5_donorOf 1 = .ok (.iload_n 1, 1) := by decide +kernel
theorem dX5_donorOf_2 : decode cX5_donorOf 2 = .ok (.invokevirtual 79, 3) := by decide +kernel
theorem dX5_donorOf_5 : decode cX5_donorOf 5 = .ok (.ifCond .eq 23, 3) := by decide +kernel
theorem dX5_donorOf_8 : decode cX5_donorOf 8 = .ok (.iload_n 2, 1) := by decide +kernel
theorem dX5_donorOf_9 : decode cX5_donorOf 9 = .ok (.iconst 0, 1) := by decide +kernel
theorem dX5_donorOf_10 : decode cX5_donorOf 10 = .ok (.iconst 4, 1) := by decide +kernel
theorem dX5_donorOf_11 : decode cX5_donorOf 11 = .ok (.invokestatic 82, 3) := by decide +kernel
theorem dX5_donorOf_14 : decode cX5_donorOf 14 = .ok (.ifCond .ne 16, 3) := by decide +kernel
theorem dX5_donorOf_17 : decode cX5_donorOf 17 = .ok (.aload_n 0, 1) := by decide +kernel
theorem dX5_donorOf_18 : decode cX5_donorOf 18 = .ok (.iload_n 2, 1) := by decide +kernel
theorem dX5_donorOf_19 : decode cX5_donorOf 19 = .ok (.bipush 10, 2) := by decide +kernel
theorem dX5_donorOf_21 : decode cX5_donorOf 21 = .ok (.isub, 1) := by decide +kernel
theorem dX5_donorOf_22 : decode cX5_donorOf 22 = .ok (.invokevirtual 92, 3) := by decide +kernel
theorem dX5_donorOf_25 : decode cX5_donorOf 25 = .ok (.ifCond .ne 5, 3) := by decide +kernel
theorem dX5_donorOf_28 : decode cX5_donorOf 28 = .ok (.iconst (-1), 1) := by decide +kernel
theorem dX5_donorOf_29 : decode cX5_donorOf 29 = .ok (.ireturn, 1) := by decide +kernel
theorem dX5_donorOf_30 : decode cX5_donorOf 30 = .ok (.iload_n 2, 1) := by decide +kernel
theorem dX5_donorOf_31 : decode cX5_donorOf 31 = .ok (.ifCond .ne 12, 3) := by decide +kernel
theorem dX5_donorOf_34 : decode cX5_donorOf 34 = .ok (.aload_n 0, 1) := by decide +kernel
theorem dX5_donorOf_35 : decode cX5_donorOf 35 = .ok (.iload_n 1, 1) := by decide +kernel
theorem dX5_donorOf_36 : decode cX5_donorOf 36 = .ok (.iconst 0, 1) := by decide +kernel
theorem dX5_donorOf_37 : decode cX5_donorOf 37 = .ok (.invokevirtual 86, 3) := by decide +kernel
theorem dX5_donorOf_40 : decode cX5_donorOf 40 = .ok (.goto 41, 3) := by decide +kernel
theorem dX5_donorOf_43 : decode cX5_donorOf 43 = .ok (.iload_n 2, 1) := by decide +kernel
theorem dX5_donorOf_44 : decode cX5_donorOf 44 = .ok (.iconst 4, 1) := by decide +kernel
theorem dX5_donorOf_45 : decode cX5_donorOf 45 = .ok (.if_icmp .ge 14, 3) := by decide +kernel
theorem dX5_donorOf_48 : decode cX5_donorOf 48 = .ok (.aload_n 0, 1) := by decide +kernel
theorem dX5_donorOf_49 : decode cX5_donorOf 49 = .ok (.iload_n 1, 1) := by decide +kernel
theorem dX5_donorOf_50 : decode cX5_donorOf 50 = .ok (.iload_n 2, 1) := by decide +kernel
theorem dX5_donorOf_51 : decode cX5_donorOf 51 = .ok (.iconst 1, 1) := by decide +kernel
theorem dX5_donorOf_52 : decode cX5_donorOf 52 = .ok (.isub, 1) := by decide +kernel
theorem dX5_donorOf_53 : decode cX5_donorOf 53 = .ok (.invokevirtual 152, 3) := by decide +kernel
theorem dX5_donorOf_56 : decode cX5_donorOf 56 = .ok (.goto 25, 3) := by decide +kernel
theorem dX5_donorOf_59 : decode cX5_donorOf 59 = .ok (.iload_n 2, 1) := by decide +kernel
theorem dX5_donorOf_60 : decode cX5_donorOf 60 = .ok (.iconst 4, 1) := by decide +kernel
theorem dX5_donorOf_61 : decode cX5_donorOf 61 = .ok (.if_icmp .ne 11, 3) := by decide +kernel
theorem dX5_donorOf_64 : decode cX5_donorOf 64 = .ok (.aload_n 0, 1) := by decide +kernel
theorem dX5_donorOf_65 : decode cX5_donorOf 65 = .ok (.iload_n 1, 1) := by decide +kernel
theorem dX5_donorOf_66 : decode cX5_donorOf 66 = .ok (.invokevirtual 155, 3) := by decide +kernel
theorem dX5_donorOf_69 : decode cX5_donorOf 69 = .ok (.goto 12, 3) := by decide +kernel
theorem dX5_donorOf_72 : decode cX5_donorOf 72 = .ok (.aload_n 0, 1) := by decide +kernel
theorem dX5_donorOf_73 : decode cX5_donorOf 73 = .ok (.iload_n 1, 1) := by decide +kernel
theorem dX5_donorOf_74 : decode cX5_donorOf 74 = .ok (.iload_n 2, 1) := by decide +kernel
theorem dX5_donorOf_75 : decode cX5_donorOf 75 = .ok (.bipush 9, 2) := by decide +kernel
theorem dX5_donorOf_77 : decode cX5_donorOf 77 = .ok (.isub, 1) := by decide +kernel
theorem dX5_donorOf_78 : decode cX5_donorOf 78 = .ok (.invokevirtual 86, 3) := by decide +kernel
theorem dX5_donorOf_81 : decode cX5_donorOf 81 = .ok (.ireturn, 1) := by decide +kernel
theorem dX5_giftOf_0 : decode cX5_giftOf 0 = .ok (.iload_n 1, 1) := by decide +kernel
theorem dX5_giftOf_1 : decode cX5_giftOf 1 = .ok (.ifCond .lt 23, 3) := by decide +kernel
theorem dX5_giftOf_4 : decode cX5_giftOf 4 = .ok (.iload_n 1, 1) := by decide +kernel
theorem dX5_giftOf_5 : decode cX5_giftOf 5 = .ok (.aload_n 0, 1) := by decide +kernel
theorem dX5_giftOf_6 : decode cX5_giftOf 6 = .ok (.getfield 7, 3) := by decide +kernel
theorem dX5_giftOf_9 : decode cX5_giftOf 9 = .ok (.iconst 4, 1) := by decide +kernel
theorem dX5_giftOf_10 : decode cX5_giftOf 10 = .ok (.iaload, 1) := by decide +kernel
theorem dX5_giftOf_11 : decode cX5_giftOf 11 = .ok (.if_icmp .ge 13, 3) := by decide +kernel
theorem dX5_giftOf_14 : decode cX5_giftOf 14 = .ok (.iload_n 2, 1) := by decide +kernel
theorem dX5_giftOf_15 : decode cX5_giftOf 15 = .ok (.iconst 0, 1) := by decide +kernel
theorem dX5_giftOf_16 : decode cX5_giftOf 16 = .ok (.bipush 7, 2) := by decide +kernel
theorem dX5_giftOf_18 : decode cX5_giftOf 18 = .ok (.invokestatic 82, 3) := by decide +kernel
theorem dX5_giftOf_21 : decode cX5_giftOf 21 = .ok (.ifCond .ne 5, 3) := by decide +kernel
theorem dX5_giftOf_24 : decode cX5_giftOf 24 = .ok (.iconst (-1), 1) := by decide +kernel
theorem dX5_giftOf_25 : decode cX5_giftOf 25 = .ok (.ireturn, 1) := by decide +kernel
theorem dX5_giftOf_26 : decode cX5_giftOf 26 = .ok (.iload_n 2, 1) := by decide +kernel
theorem dX5_giftOf_27 : decode cX5_giftOf 27 = .ok (.bipush 7, 2) := by decide +kernel
theorem dX5_giftOf_29 : decode cX5_giftOf 29 = .ok (.if_icmp .ne 15, 3) := by decide +kernel
theorem dX5_giftOf_32 : decode cX5_giftOf 32 = .ok (.aload_n 0, 1) := by decide +kernel
theorem dX5_giftOf_33 : decode cX5_giftOf 33 = .ok (.iload_n 1, 1) := by decide +kernel
theorem dX5_giftOf_34 : decode cX5_giftOf 34 = .ok (.iconst 2, 1) := by decide +kernel
theorem dX5_giftOf_35 : decode cX5_giftOf 35 = .ok (.invokevirtual 112, 3) := by decide +kernel
theorem dX5_giftOf_38 : decode cX5_giftOf 38 = .ok (.invokestatic 121, 3) := by decide +kernel
theorem dX5_giftOf_41 : decode cX5_giftOf 41 = .ok (.goto 9, 3) := by decide +kernel
theorem dX5_giftOf_44 : decode cX5_giftOf 44 = .ok (.aload_n 0, 1) := by decide +kernel
theorem dX5_giftOf_45 : decode cX5_giftOf 45 = .ok (.iload_n 1, 1) := by decide +kernel
theorem dX5_giftOf_46 : decode cX5_giftOf 46 = .ok (.iload_n 2, 1) := by decide +kernel
theorem dX5_giftOf_47 : decode cX5_giftOf 47 = .ok (.invokevirtual 112, 3) := by decide +kernel
theorem dX5_giftOf_50 : decode cX5_giftOf 50 = .ok (.ireturn, 1) := by decide +kernel
theorem dX5_pledgeOf_0 : decode cX5_pledgeOf 0 = .ok (.aload_n 0, 1) := by decide +kernel
theorem dX5_pledgeOf_1 : decode cX5_pledgeOf 1 = .ok (.iload_n 1, 1) := by decide +kernel
theorem dX5_pledgeOf_2 : decode cX5_pledgeOf 2 = .ok (.invokevirtual 102, 3) := by decide +kernel
theorem dX5_pledgeOf_5 : decode cX5_pledgeOf 5 = .ok (.ifCond .eq 22, 3) := by decide +kernel
theorem dX5_pledgeOf_8 : decode cX5_pledgeOf 8 = .ok (.iload_n 2, 1) := by decide +kernel
theorem dX5_pledgeOf_9 : decode cX5_pledgeOf 9 = .ok (.iconst 0, 1) := by decide +kernel
theorem dX5_pledgeOf_10 : decode cX5_pledgeOf 10 = .ok (.bipush 7, 2) := by decide +kernel
theorem dX5_pledgeOf_12 : decode cX5_pledgeOf 12 = .ok (.invokestatic 82, 3) := by decide +kernel
theorem dX5_pledgeOf_15 : decode cX5_pledgeOf 15 = .ok (.ifCond .eq 12, 3) := by decide +kernel
theorem dX5_pledgeOf_18 : decode cX5_pledgeOf 18 = .ok (.aload_n 0, 1) := by decide +kernel
theorem dX5_pledgeOf_19 : decode cX5_pledgeOf 19 = .ok (.iload_n 1, 1) := by decide +kernel
theorem dX5_pledgeOf_20 : decode cX5_pledgeOf 20 = .ok (.iload_n 2, 1) := by decide +kernel
theorem dX5_pledgeOf_21 : decode cX5_pledgeOf 21 = .ok (.invokevirtual 105, 3) := by decide +kernel
theorem dX5_pledgeOf_24 : decode cX5_pledgeOf 24 = .ok (.goto 4, 3) := by decide +kernel
theorem dX5_pledgeOf_27 : decode cX5_pledgeOf 27 = .ok (.iconst (-1), 1) := by decide +kernel
theorem dX5_pledgeOf_28 : decode cX5_pledgeOf 28 = .ok (.ireturn, 1) := by decide +kernel
theorem dX5_all_0 : decode cX5_all 0 = .ok (.iconst 0, 1) := by decide +kernel
theorem dX5_all_1 : decode cX5_all 1 = .ok (.istore_n 2, 1) := by decide +kernel
theorem dX5_all_2 : decode cX5_all 2 = .ok (.iconst 0, 1) := by decide +kernel
theorem dX5_all_3 : decode cX5_all 3 = .ok (.istore_n 3, 1) := by decide +kernel
theorem dX5_all_4 : decode cX5_all 4 = .ok (.iload_n 3, 1) := by decide +kernel
theorem dX5_all_5 : decode cX5_all 5 = .ok (.aload_n 0, 1) := by decide +kernel
theorem dX5_all_6 : decode cX5_all 6 = .ok (.getfield 7, 3) := by decide +kernel
theorem dX5_all_9 : decode cX5_all 9 = .ok (.iconst 2, 1) := by decide +kernel
theorem dX5_all_10 : decode cX5_all 10 = .ok (.iaload, 1) := by decide +kernel
theorem dX5_all_11 : decode cX5_all 11 = .ok (.if_icmp .ge 40, 3) := by decide +kernel
theorem dX5_all_14 : decode cX5_all 14 = .ok (.iload_n 2, 1) := by decide +kernel
theorem dX5_all_15 : decode cX5_all 15 = .ok (.iload_n 1, 1) := by decide +kernel
theorem dX5_all_16 : decode cX5_all 16 = .ok (.bipush 9, 2) := by decide +kernel
theorem dX5_all_18 : decode cX5_all 18 = .ok (.if_icmp .ne 19, 3) := by decide +kernel
theorem dX5_all_21 : decode cX5_all 21 = .ok (.aload_n 0, 1) := by decide +kernel
theorem dX5_all_22 : decode cX5_all 22 = .ok (.iload_n 3, 1) := by decide +kernel
theorem dX5_all_23 : decode cX5_all 23 = .ok (.invokevirtual 69, 3) := by decide +kernel
theorem dX5_all_26 : decode cX5_all 26 = .ok (.ifCond .eq 7, 3) := by decide +kernel
theorem dX5_all_29 : decode cX5_all 29 = .ok (.iconst 1, 1) := by decide +kernel
theorem dX5_all_30 : decode cX5_all 30 = .ok (.goto 13, 3) := by decide +kernel
theorem dX5_all_33 : decode cX5_all 33 = .ok (.iconst 0, 1) := by decide +kernel
theorem dX5_all_34 : decode cX5_all 34 = .ok (.goto 9, 3) := by decide +kernel
theorem dX5_all_37 : decode cX5_all 37 = .ok (.aload_n 0, 1) := by decide +kernel
theorem dX5_all_38 : decode cX5_all 38 = .ok (.iload_n 3, 1) := by decide +kernel
theorem dX5_all_39 : decode cX5_all 39 = .ok (.iload_n 1, 1) := by decide +kernel
theorem dX5_all_40 : decode cX5_all 40 = .ok (.invokevirtual 65, 3) := by decide +kernel
theorem dX5_all_43 : decode cX5_all 43 = .ok (.iadd, 1) := by decide +kernel
theorem dX5_all_44 : decode cX5_all 44 = .ok (.istore_n 2, 1) := by decide +kernel
theorem dX5_all_45 : decode cX5_all 45 = .ok (.iinc 3 1, 3) := by decide +kernel
theorem dX5_all_48 : decode cX5_all 48 = .ok (.goto (-44), 3) := by decide +kernel
theorem dX5_all_51 : decode cX5_all 51 = .ok (.iload_n 2, 1) := by decide +kernel
theorem dX5_all_52 : decode cX5_all 52 = .ok (.ireturn, 1) := by decide +kernel
theorem dX5_count_0 : decode cX5_count 0 = .ok (.iload_n 1, 1) := by decide +kernel
theorem dX5_count_1 : decode cX5_count 1 = .ok (.tableswitch 142 0 14 #[75, 75, 75, 75, 75, 84, 90, 96, 102, 109, 115, 122, 127, 132, 132], 75) := by decide +kernel
theorem dX5_count_76 : decode cX5_count 76 = .ok (.aload_n 0, 1) := by decide +kernel
theorem dX5_count_77 : decode cX5_count 77 = .ok (.getfield 7, 3) := by decide +kernel
theorem dX5_count_80 : decode cX5_count 80 = .ok (.iconst 2, 1) := by decide +kernel
theorem dX5_count_81 : decode cX5_count 81 = .ok (.iload_n 1, 1) := by decide +kernel
theorem dX5_count_82 : decode cX5_count 82 = .ok (.iadd, 1) := by decide +kernel
theorem dX5_count_83 : decode cX5_count 83 = .ok (.iaload, 1) := by decide +kernel
theorem dX5_count_84 : decode cX5_count 84 = .ok (.ireturn, 1) := by decide +kernel
theorem dX5_count_85 : decode cX5_count 85 = .ok (.aload_n 0, 1) := by decide +kernel
theorem dX5_count_86 : decode cX5_count 86 = .ok (.iconst 0, 1) := by decide +kernel
theorem dX5_count_87 : decode cX5_count 87 = .ok (.invokevirtual 158, 3) := by decide +kernel
theorem dX5_count_90 : decode cX5_count 90 = .ok (.ireturn, 1) := by decide +kernel
theorem dX5_count_91 : decode cX5_count 91 = .ok (.aload_n 0, 1) := by decide +kernel
theorem dX5_count_92 : decode cX5_count 92 = .ok (.iconst 3, 1) := by decide +kernel
theorem dX5_count_93 : decode cX5_count 93 = .ok (.invokevirtual 158, 3) := by decide +kernel
theorem dX5_count_96 : decode cX5_count 96 = .ok (.ireturn, 1) := by decide +kernel
theorem dX5_count_97 : decode cX5_count 97 = .ok (.aload_n 0, 1) := by decide +kernel
theorem dX5_count_98 : decode cX5_count 98 = .ok (.iconst 2, 1) := by decide +kernel
theorem dX5_count_99 : decode cX5_count 99 = .ok (.invokevirtual 158, 3) := by decide +kernel
theorem dX5_count_102 : decode cX5_count 102 = .ok (.ireturn, 1) := by decide +kernel
theorem dX5_count_103 : decode cX5_count 103 = .ok (.aload_n 0, 1) := by decide +kernel
theorem dX5_count_104 : decode cX5_count 104 = .ok (.bipush 6, 2) := by decide +kernel
theorem dX5_count_106 : decode cX5_count 106 = .ok (.invokevirtual 158, 3) := by decide +kernel
theorem dX5_count_109 : decode cX5_count 109 = .ok (.ireturn, 1) := by decide +kernel
theorem dX5_count_110 : decode cX5_count 110 = .ok (.aload_n 0, 1) := by decide +kernel
theorem dX5_count_111 : decode cX5_count 111 = .ok (.iconst 5, 1) := by decide +kernel
theorem dX5_count_112 : decode cX5_count 112 = .ok (.invokevirtual 158, 3) := by decide +kernel
theorem dX5_count_115 : decode cX5_count 115 = .ok (.ireturn, 1) := by decide +kernel
theorem dX5_count_116 : decode cX5_count 116 = .ok (.aload_n 0, 1) := by decide +kernel
theorem dX5_count_117 : decode cX5_count 117 = .ok (.bipush 9, 2) := by decide +kernel
theorem dX5_count_119 : decode cX5_count 119 = .ok (.invokevirtual 158, 3) := by decide +kernel
theorem dX5_count_122 : decode cX5_count 122 = .ok (.ireturn, 1) := by decide +kernel
theorem dX5_count_123 : decode cX5_count 123 = .ok (.aload_n 0, 1) := by decide +kernel
theorem dX5_count_124 : decode cX5_count 124 = .ok (.getfield 61, 3) := by decide +kernel
theorem dX5_count_127 : decode cX5_count 127 = .ok (.ireturn, 1) := by decide +kernel
theorem dX5_count_128 : decode cX5_count 128 = .ok (.aload_n 0, 1) := by decide +kernel
theorem dX5_count_129 : decode cX5_count 129 = .ok (.getfield 161, 3) := by decide +kernel
theorem dX5_count_132 : decode cX5_count 132 = .ok (.ireturn, 1) := by decide +kernel
theorem dX5_count_133 : decode cX5_count 133 = .ok (.aload_n 0, 1) := by decide +kernel
theorem dX5_count_134 : decode cX5_count 134 = .ok (.getfield 7, 3) := by decide +kernel
theorem dX5_count_137 : decode cX5_count 137 = .ok (.iload_n 1, 1) := by decide +kernel
theorem dX5_count_138 : decode cX5_count 138 = .ok (.bipush 13, 2) := by decide +kernel
theorem dX5_count_140 : decode cX5_count 140 = .ok (.isub, 1) := by decide +kernel
theorem dX5_count_141 : decode cX5_count 141 = .ok (.iaload, 1) := by decide +kernel
theorem dX5_count_142 : decode cX5_count 142 = .ok (.ireturn, 1) := by decide +kernel
theorem dX5_count_143 : decode cX5_count 143 = .ok (.iconst (-1), 1) := by decide +kernel
theorem dX5_count_144 : decode cX5_count 144 = .ok (.ireturn, 1) := by decide +kernel
theorem dX5_consents_0 : decode cX5_consents 0 = .ok (.aload_n 0, 1) := by decide +kernel
theorem dX5_consents_1 : decode cX5_consents 1 = .ok (.iload_n 1, 1) := by decide +kernel
theorem dX5_consents_2 : decode cX5_consents 2 = .ok (.iload_n 2, 1) := by decide +kernel
theorem dX5_consents_3 : decode cX5_consents 3 = .ok (.invokevirtual 138, 3) := by decide +kernel
theorem dX5_consents_6 : decode cX5_consents 6 = .ok (.ifCond .ne 5, 3) := by decide +kernel
theorem dX5_consents_9 : decode cX5_consents 9 = .ok (.iconst (-1), 1) := by decide +kernel
theorem dX5_consents_10 : decode cX5_consents 10 = .ok (.ireturn, 1) := by decide +kernel
theorem dX5_consents_11 : decode cX5_consents 11 = .ok (.aload_n 0, 1) := by decide +kernel
theorem dX5_consents_12 : decode cX5_consents 12 = .ok (.iload_n 1, 1) := by decide +kernel
theorem dX5_consents_13 : decode cX5_consents 13 = .ok (.iconst (-1), 1) := by decide +kernel
theorem dX5_consents_14 : decode cX5_consents 14 = .ok (.invokevirtual 142, 3) := by decide +kernel
theorem dX5_consents_17 : decode cX5_consents 17 = .ok (.istore_n 3, 1) := by decide +kernel
theorem dX5_consents_18 : decode cX5_consents 18 = .ok (.iload_n 3, 1) := by decide +kernel
theorem dX5_consents_19 : decode cX5_consents 19 = .ok (.ifCond .ne 8, 3) := by decide +kernel
theorem dX5_consents_22 : decode cX5_consents 22 = .ok (.bipush (-4), 2) := by decide +kernel
theorem dX5_consents_24 : decode cX5_consents 24 = .ok (.goto 14, 3) := by decide +kernel
theorem dX5_consents_27 : decode cX5_consents 27 = .ok (.bipush 100, 2) := by decide +kernel
theorem dX5_consents_29 : decode cX5_consents 29 = .ok (.aload_n 0, 1) := by decide +kernel
theorem dX5_consents_30 : decode cX5_consents 30 = .ok (.iload_n 1, 1) := by decide +kernel
theorem dX5_consents_31 : decode cX5_consents 31 = .ok (.iload_n 2, 1) := by decide +kernel
theorem dX5_consents_32 : decode cX5_consents 32 = .ok (.invokevirtual 142, 3) := by decide +kernel
theorem dX5_consents_35 : decode cX5_consents 35 = .ok (.imul, 1) := by decide +kernel
theorem dX5_consents_36 : decode cX5_consents 36 = .ok (.iload_n 3, 1) := by decide +kernel
theorem dX5_consents_37 : decode cX5_consents 37 = .ok (.idiv, 1) := by decide +kernel
theorem dX5_consents_38 : decode cX5_consents 38 = .ok (.ireturn, 1) := by decide +kernel
theorem dX5_later_0 : decode cX5_later 0 = .ok (.aload_n 0, 1) := by decide +kernel
theorem dX5_later_1 : decode cX5_later 1 = .ok (.iload_n 1, 1) := by decide +kernel
theorem dX5_later_2 : decode cX5_later 2 = .ok (.invokevirtual 92, 3) := by decide +kernel
theorem dX5_later_5 : decode cX5_later 5 = .ok (.ifCond .eq 13, 3) := by decide +kernel
theorem dX5_later_8 : decode cX5_later 8 = .ok (.iload_n 2, 1) := by decide +kernel
theorem dX5_later_9 : decode cX5_later 9 = .ok (.iconst 1, 1) := by decide +kernel
theorem dX5_later_10 : decode cX5_later 10 = .ok (.bipush 60, 2) := by decide +kernel
theorem dX5_later_12 : decode cX5_later 12 = .ok (.invokestatic 82, 3) := by decide +kernel
theorem dX5_later_15 : decode cX5_later 15 = .ok (.ifCond .ne 5, 3) := by decide +kernel
theorem dX5_later_18 : decode cX5_later 18 = .ok (.iconst (-1), 1) := by decide +kernel
theorem dX5_later_19 : decode cX5_later 19 = .ok (.ireturn, 1) := by decide +kernel
theorem dX5_later_20 : decode cX5_later 20 = .ok (.aload_n 0, 1) := by decide +kernel
theorem dX5_later_21 : decode cX5_later 21 = .ok (.iload_n 1, 1) := by decide +kernel
theorem dX5_later_22 : decode cX5_later 22 = .ok (.invokevirtual 69, 3) := by decide +kernel
theorem dX5_later_25 : decode cX5_later 25 = .ok (.ifCond .eq 6, 3) := by decide +kernel
theorem dX5_later_28 : decode cX5_later 28 = .ok (.bipush (-2), 2) := by decide +kernel
theorem dX5_later_30 : decode cX5_later 30 = .ok (.ireturn, 1) := by decide +kernel
theorem dX5_later_31 : decode cX5_later 31 = .ok (.aload_n 0, 1) := by decide +kernel
theorem dX5_later_32 : decode cX5_later 32 = .ok (.getfield 7, 3) := by decide +kernel
theorem dX5_later_35 : decode cX5_later 35 = .ok (.aload_n 0, 1) := by decide +kernel
theorem dX5_later_36 : decode cX5_later 36 = .ok (.getfield 19, 3) := by decide +kernel
theorem dX5_later_39 : decode cX5_later 39 = .ok (.invokestatic 128, 3) := by decide +kernel
theorem dX5_later_42 : decode cX5_later 42 = .ok (.aload_n 0, 1) := by decide +kernel
theorem dX5_later_43 : decode cX5_later 43 = .ok (.iload_n 2, 1) := by decide +kernel
theorem dX5_later_44 : decode cX5_later 44 = .ok (.invokevirtual 148, 3) := by decide +kernel
theorem dX5_later_47 : decode cX5_later 47 = .ok (.istore_n 3, 1) := by decide +kernel
theorem dX5_later_48 : decode cX5_later 48 = .ok (.iload_n 3, 1) := by decide +kernel
theorem dX5_later_49 : decode cX5_later 49 = .ok (.ifCond .ge 7, 3) := by decide +kernel
theorem dX5_later_52 : decode cX5_later 52 = .ok (.iconst 0, 1) := by decide +kernel
theorem dX5_later_53 : decode cX5_later 53 = .ok (.goto 9, 3) := by decide +kernel
theorem dX5_later_56 : decode cX5_later 56 = .ok (.aload_n 0, 1) := by decide +kernel
theorem dX5_later_57 : decode cX5_later 57 = .ok (.iload_n 1, 1) := by decide +kernel
theorem dX5_later_58 : decode cX5_later 58 = .ok (.iconst 0, 1) := by decide +kernel
theorem dX5_later_59 : decode cX5_later 59 = .ok (.invokevirtual 65, 3) := by decide +kernel
theorem dX5_later_62 : decode cX5_later 62 = .ok (.istore 4, 2) := by decide +kernel
theorem dX5_later_64 : decode cX5_later 64 = .ok (.aload_n 0, 1) := by decide +kernel
theorem dX5_later_65 : decode cX5_later 65 = .ok (.getfield 19, 3) := by decide +kernel
theorem dX5_later_68 : decode cX5_later 68 = .ok (.aload_n 0, 1) := by decide +kernel
theorem dX5_later_69 : decode cX5_later 69 = .ok (.getfield 7, 3) := by decide +kernel
theorem dX5_later_72 : decode cX5_later 72 = .ok (.invokestatic 128, 3) := by decide +kernel
theorem dX5_later_75 : decode cX5_later 75 = .ok (.iload 4, 2) := by decide +kernel
theorem dX5_later_77 : decode cX5_later 77 = .ok (.ireturn, 1) := by decide +kernel
theorem dX5_undo_0 : decode cX5_undo 0 = .ok (.aload_n 0, 1) := by decide +kernel
theorem dX5_undo_1 : decode cX5_undo 1 = .ok (.getfield 61, 3) := by decide +kernel
theorem dX5_undo_4 : decode cX5_undo 4 = .ok (.ifCond .ne 6, 3) := by decide +kernel
theorem dX5_undo_7 : decode cX5_undo 7 = .ok (.bipush (-2), 2) := by decide +kernel
theorem dX5_undo_9 : decode cX5_undo 9 = .ok (.ireturn, 1) := by decide +kernel
theorem dX5_undo_10 : decode cX5_undo 10 = .ok (.aload_n 0, 1) := by decide +kernel
theorem dX5_undo_11 : decode cX5_undo 11 = .ok (.dup, 1) := by decide +kernel
theorem dX5_undo_12 : decode cX5_undo 12 = .ok (.getfield 61, 3) := by decide +kernel
theorem dX5_undo_15 : decode cX5_undo 15 = .ok (.iconst 1, 1) := by decide +kernel
theorem dX5_undo_16 : decode cX5_undo 16 = .ok (.isub, 1) := by decide +kernel
theorem dX5_undo_17 : decode cX5_undo 17 = .ok (.putfield 61, 3) := by decide +kernel
theorem dX5_undo_20 : decode cX5_undo 20 = .ok (.iconst 0, 1) := by decide +kernel
theorem dX5_undo_21 : decode cX5_undo 21 = .ok (.istore_n 1, 1) := by decide +kernel
theorem dX5_undo_22 : decode cX5_undo 22 = .ok (.iload_n 1, 1) := by decide +kernel
theorem dX5_undo_23 : decode cX5_undo 23 = .ok (.sipush 345, 3) := by decide +kernel
theorem dX5_undo_26 : decode cX5_undo 26 = .ok (.if_icmp .ge 30, 3) := by decide +kernel
theorem dX5_undo_29 : decode cX5_undo 29 = .ok (.aload_n 0, 1) := by decide +kernel
theorem dX5_undo_30 : decode cX5_undo 30 = .ok (.getfield 7, 3) := by decide +kernel
theorem dX5_undo_33 : decode cX5_undo 33 = .ok (.iload_n 1, 1) := by decide +kernel
theorem dX5_undo_34 : decode cX5_undo 34 = .ok (.aload_n 0, 1) := by decide +kernel
theorem dX5_undo_35 : decode cX5_undo 35 = .ok (.getfield 13, 3) := by decide +kernel
theorem dX5_undo_38 : decode cX5_undo 38 = .ok (.sipush 345, 3) := by decide +kernel
theorem dX5_undo_41 : decode cX5_undo 41 = .ok (.aload_n 0, 1) := by decide +kernel
theorem dX5_undo_42 : decode cX5_undo 42 = .ok (.getfield 61, 3) := by decide +kernel
theorem dX5_undo_45 : decode cX5_undo 45 = .ok (.imul, 1) := by decide +kernel
theorem dX5_undo_46 : decode cX5_undo 46 = .ok (.iload_n 1, 1) := by decide +kernel
theorem dX5_undo_47 : decode cX5_undo 47 = .ok (.iadd, 1) := by decide +kernel
theorem dX5_undo_48 : decode cX5_undo 48 = .ok (.iaload, 1) := by decide +kernel
theorem dX5_undo_49 : decode cX5_undo 49 = .ok (.iastore, 1) := by decide +kernel
theorem dX5_undo_50 : decode cX5_undo 50 = .ok (.iinc 1 1, 3) := by decide +kernel
theorem dX5_undo_53 : decode cX5_undo 53 = .ok (.goto (-31), 3) := by decide +kernel
theorem dX5_undo_56 : decode cX5_undo 56 = .ok (.aload_n 0, 1) := by decide +kernel
theorem dX5_undo_57 : decode cX5_undo 57 = .ok (.getfield 61, 3) := by decide +kernel
theorem dX5_undo_60 : decode cX5_undo 60 = .ok (.ireturn, 1) := by decide +kernel
theorem dX5_type_0 : decode cX5_type 0 = .ok (.iload_n 1, 1) := by decide +kernel
theorem dX5_type_1 : decode cX5_type 1 = .ok (.bipush 32, 2) := by decide +kernel
theorem dX5_type_3 : decode cX5_type 3 = .ok (.bipush 126, 2) := by decide +kernel
theorem dX5_type_5 : decode cX5_type 5 = .ok (.invokestatic 82, 3) := by decide +kernel
theorem dX5_type_8 : decode cX5_type 8 = .ok (.ifCond .ne 5, 3) := by decide +kernel
theorem dX5_type_11 : decode cX5_type 11 = .ok (.iconst (-1), 1) := by decide +kernel
theorem dX5_type_12 : decode cX5_type 12 = .ok (.ireturn, 1) := by decide +kernel
theorem dX5_type_13 : decode cX5_type 13 = .ok (.aload_n 0, 1) := by decide +kernel
theorem dX5_type_14 : decode cX5_type 14 = .ok (.getfield 161, 3) := by decide +kernel
theorem dX5_type_17 : decode cX5_type 17 = .ok (.bipush 80, 2) := by decide +kernel
theorem dX5_type_19 : decode cX5_type 19 = .ok (.if_icmp .ne 6, 3) := by decide +kernel
theorem dX5_type_22 : decode cX5_type 22 = .ok (.bipush (-3), 2) := by decide +kernel
theorem dX5_type_24 : decode cX5_type 24 = .ok (.ireturn, 1) := by decide +kernel
theorem dX5_type_25 : decode cX5_type 25 = .ok (.aload_n 0, 1) := by decide +kernel
theorem dX5_type_26 : decode cX5_type 26 = .ok (.getfield 22, 3) := by decide +kernel
theorem dX5_type_29 : decode cX5_type 29 = .ok (.aload_n 0, 1) := by decide +kernel
theorem dX5_type_30 : decode cX5_type 30 = .ok (.getfield 161, 3) := by decide +kernel
theorem dX5_type_33 : decode cX5_type 33 = .ok (.iload_n 1, 1) := by decide +kernel
theorem dX5_type_34 : decode cX5_type 34 = .ok (.iastore, 1) := by decide +kernel
theorem dX5_type_35 : decode cX5_type 35 = .ok (.aload_n 0, 1) := by decide +kernel
theorem dX5_type_36 : decode cX5_type 36 = .ok (.dup, 1) := by decide +kernel
theorem dX5_type_37 : decode cX5_type 37 = .ok (.getfield 161, 3) := by decide +kernel
theorem dX5_type_40 : decode cX5_type 40 = .ok (.iconst 1, 1) := by decide +kernel
theorem dX5_type_41 : decode cX5_type 41 = .ok (.iadd, 1) := by decide +kernel
theorem dX5_type_42 : decode cX5_type 42 = .ok (.putfield 161, 3) := by decide +kernel
theorem dX5_type_45 : decode cX5_type 45 = .ok (.aload_n 0, 1) := by decide +kernel
theorem dX5_type_46 : decode cX5_type 46 = .ok (.getfield 161, 3) := by decide +kernel
theorem dX5_type_49 : decode cX5_type 49 = .ok (.ireturn, 1) := by decide +kernel
theorem dX5_clearText_0 : decode cX5_clearText 0 = .ok (.aload_n 0, 1) := by decide +kernel
theorem dX5_clearText_1 : decode cX5_clearText 1 = .ok (.getfield 161, 3) := by decide +kernel
theorem dX5_clearText_4 : decode cX5_clearText 4 = .ok (.istore_n 1, 1) := by decide +kernel
theorem dX5_clearText_5 : decode cX5_clearText 5 = .ok (.aload_n 0, 1) := by decide +kernel
theorem dX5_clearText_6 : decode cX5_clearText 6 = .ok (.iconst 0, 1) := by decide +kernel
theorem dX5_clearText_7 : decode cX5_clearText 7 = .ok (.putfield 161, 3) := by decide +kernel
theorem dX5_clearText_10 : decode cX5_clearText 10 = .ok (.iload_n 1, 1) := by decide +kernel
theorem dX5_clearText_11 : decode cX5_clearText 11 = .ok (.ireturn, 1) := by decide +kernel
theorem dX5_isAt_0 : decode cX5_isAt 0 = .ok (.aload_n 0, 1) := by decide +kernel
theorem dX5_isAt_1 : decode cX5_isAt 1 = .ok (.getfield 164, 3) := by decide +kernel
theorem dX5_isAt_4 : decode cX5_isAt 4 = .ok (.aload_n 0, 1) := by decide +kernel
theorem dX5_isAt_5 : decode cX5_isAt 5 = .ok (.getfield 161, 3) := by decide +kernel
theorem dX5_isAt_8 : decode cX5_isAt 8 = .ok (.if_icmp .ge 24, 3) := by decide +kernel
theorem dX5_isAt_11 : decode cX5_isAt 11 = .ok (.aload_n 0, 1) := by decide +kernel
theorem dX5_isAt_12 : decode cX5_isAt 12 = .ok (.getfield 22, 3) := by decide +kernel
theorem dX5_isAt_15 : decode cX5_isAt 15 = .ok (.aload_n 0, 1) := by decide +kernel
theorem dX5_isAt_16 : decode cX5_isAt 16 = .ok (.getfield 164, 3) := by decide +kernel
theorem dX5_isAt_19 : decode cX5_isAt 19 = .ok (.iaload, 1) := by decide +kernel
theorem dX5_isAt_20 : decode cX5_isAt 20 = .ok (.iload_n 1, 1) := by decide +kernel
theorem dX5_isAt_21 : decode cX5_isAt 21 = .ok (.iload_n 2, 1) := by decide +kernel
theorem dX5_isAt_22 : decode cX5_isAt 22 = .ok (.invokestatic 82, 3) := by decide +kernel
theorem dX5_isAt_25 : decode cX5_isAt 25 = .ok (.ifCond .eq 7, 3) := by decide +kernel
theorem dX5_isAt_28 : decode cX5_isAt 28 = .ok (.iconst 1, 1) := by decide +kernel
theorem dX5_isAt_29 : decode cX5_isAt 29 = .ok (.goto 4, 3) := by decide +kernel
theorem dX5_isAt_32 : decode cX5_isAt 32 = .ok (.iconst 0, 1) := by decide +kernel
theorem dX5_isAt_33 : decode cX5_isAt 33 = .ok (.ireturn, 1) := by decide +kernel
theorem dX5_passes_0 : decode cX5_passes 0 = .ok (.aload_n 0, 1) := by decide +kernel
theorem dX5_passes_1 : decode cX5_passes 1 = .ok (.iload_n 1, 1) := by decide +kernel
theorem dX5_passes_2 : decode cX5_passes 2 = .ok (.iload_n 1, 1) := by decide +kernel
theorem dX5_passes_3 : decode cX5_passes 3 = .ok (.invokevirtual 167, 3) := by decide +kernel
theorem dX5_passes_6 : decode cX5_passes 6 = .ok (.istore_n 2, 1) := by decide +kernel
theorem dX5_passes_7 : decode cX5_passes 7 = .ok (.aload_n 0, 1) := by decide +kernel
theorem dX5_passes_8 : decode cX5_passes 8 = .ok (.dup, 1) := by decide +kernel
theorem dX5_passes_9 : decode cX5_passes 9 = .ok (.getfield 164, 3) := by decide +kernel
theorem dX5_passes_12 : decode cX5_passes 12 = .ok (.iload_n 2, 1) := by decide +kernel
theorem dX5_passes_13 : decode cX5_passes 13 = .ok (.ifCond .eq 7, 3) := by decide +kernel
theorem dX5_passes_16 : decode cX5_passes 16 = .ok (.iconst 1, 1) := by decide +kernel
theorem dX5_passes_17 : decode cX5_passes 17 = .ok (.goto 4, 3) := by decide +kernel
theorem dX5_passes_20 : decode cX5_passes 20 = .ok (.iconst 0, 1) := by decide +kernel
theorem dX5_passes_21 : decode cX5_passes 21 = .ok (.iadd, 1) := by decide +kernel
theorem dX5_passes_22 : decode cX5_passes 22 = .ok (.putfield 164, 3) := by decide +kernel
theorem dX5_passes_25 : decode cX5_passes 25 = .ok (.iload_n 2, 1) := by decide +kernel
theorem dX5_passes_26 : decode cX5_passes 26 = .ok (.ireturn, 1) := by decide +kernel
theorem dX5_word_0 : decode cX5_word 0 = .ok (.lconst 0, 1) := by decide +kernel
theorem dX5_word_1 : decode cX5_word 1 = .ok (.lstore_n 1, 1) := by decide +kernel
theorem dX5_word_2 : decode cX5_word 2 = .ok (.aload_n 0, 1) := by decide +kernel
theorem dX5_word_3 : decode cX5_word 3 = .ok (.getfield 164, 3) := by decide +kernel
theorem dX5_word_6 : decode cX5_word 6 = .ok (.istore_n 3, 1) := by decide +kernel
theorem dX5_word_7 : decode cX5_word 7 = .ok (.aload_n 0, 1) := by decide +kernel
theorem dX5_word_8 : decode cX5_word 8 = .ok (.bipush 97, 2) := by decide +kernel
theorem dX5_word_10 : decode cX5_word 10 = .ok (.bipush 122, 2) := by decide +kernel
theorem dX5_word_12 : decode cX5_word 12 = .ok (.invokevirtual 167, 3) := by decide +kernel
theorem dX5_word_15 : decode cX5_word 15 = .ok (.ifCond .eq 44, 3) := by decide +kernel
theorem dX5_word_18 : decode cX5_word 18 = .ok (.aload_n 0, 1) := by decide +kernel
theorem dX5_word_19 : decode cX5_word 19 = .ok (.getfield 164, 3) := by decide +kernel
theorem dX5_word_22 : decode cX5_word 22 = .ok (.iload_n 3, 1) := by decide +kernel
theorem dX5_word_23 : decode cX5_word 23 = .ok (.isub, 1) := by decide +kernel
theorem dX5_word_24 : decode cX5_word 24 = .ok (.bipush 7, 2) := by decide +kernel
theorem dX5_word_26 : decode cX5_word 26 = .ok (.if_icmp .ge 33, 3) := by decide +kernel
theorem dX5_word_29 : decode cX5_word 29 = .ok (.lload_n 1, 1) := by decide +kernel
theorem dX5_word_30 : decode cX5_word 30 = .ok (.ldc2_w 170, 3) := by decide +kernel
theorem dX5_word_33 : decode cX5_word 33 = .ok (.lmul, 1) := by decide +kernel
theorem dX5_word_34 : decode cX5_word 34 = .ok (.aload_n 0, 1) := by decide +kernel
theorem dX5_word_35 : decode cX5_word 35 = .ok (.getfield 22, 3) := by decide +kernel
theorem dX5_word_38 : decode cX5_word 38 = .ok (.aload_n 0, 1) := by decide +kernel
theorem dX5_word_39 : decode cX5_word 39 = .ok (.getfield 164, 3) := by decide +kernel
theorem dX5_word_42 : decode cX5_word 42 = .ok (.iaload, 1) := by decide +kernel
theorem dX5_word_43 : decode cX5_word 43 = .ok (.i2l, 1) := by decide +kernel
theorem dX5_word_44 : decode cX5_word 44 = .ok (.ladd, 1) := by decide +kernel
theorem dX5_word_45 : decode cX5_word 45 = .ok (.lstore_n 1, 1) := by decide +kernel
theorem dX5_word_46 : decode cX5_word 46 = .ok (.aload_n 0, 1) := by decide +kernel
theorem dX5_word_47 : decode cX5_word 47 = .ok (.dup, 1) := by decide +kernel
theorem dX5_word_48 : decode cX5_word 48 = .ok (.getfield 164, 3) := by decide +kernel
theorem dX5_word_51 : decode cX5_word 51 = .ok (.iconst 1, 1) := by decide +kernel
theorem dX5_word_52 : decode cX5_word 52 = .ok (.iadd, 1) := by decide +kernel
theorem dX5_word_53 : decode cX5_word 53 = .ok (.putfield 164, 3) := by decide +kernel
theorem dX5_word_56 : decode cX5_word 56 = .ok (.goto (-49), 3) := by decide +kernel
theorem dX5_word_59 : decode cX5_word 59 = .ok (.bipush (-4), 2) := by decide +kernel
theorem dX5_word_61 : decode cX5_word 61 = .ok (.istore 4, 2) := by decide +kernel
theorem dX5_word_63 : decode cX5_word 63 = .ok (.iconst 0, 1) := by decide +kernel
theorem dX5_word_64 : decode cX5_word 64 = .ok (.istore 5, 2) := by decide +kernel
theorem dX5_word_66 : decode cX5_word 66 = .ok (.iload 5, 2) := by decide +kernel
theorem dX5_word_68 : decode cX5_word 68 = .ok (.bipush 9, 2) := by decide +kernel
theorem dX5_word_70 : decode cX5_word 70 = .ok (.if_icmp .ge 30, 3) := by decide +kernel
theorem dX5_word_73 : decode cX5_word 73 = .ok (.aload_n 0, 1) := by decide +kernel
theorem dX5_word_74 : decode cX5_word 74 = .ok (.getfield 25, 3) := by decide +kernel
theorem dX5_word_77 : decode cX5_word 77 = .ok (.iload 5, 2) := by decide +kernel
theorem dX5_word_79 : decode cX5_word 79 = .ok (.laload, 1) := by decide +kernel
theorem dX5_word_80 : decode cX5_word 80 = .ok (.lload_n 1, 1) := by decide +kernel
theorem dX5_word_81 : decode cX5_word 81 = .ok (.lcmp, 1) := by decide +kernel
theorem dX5_word_82 : decode cX5_word 82 = .ok (.ifCond .ne 8, 3) := by decide +kernel
theorem dX5_word_85 : decode cX5_word 85 = .ok (.iload 5, 2) := by decide +kernel
theorem dX5_word_87 : decode cX5_word 87 = .ok (.goto 5, 3) := by decide +kernel
theorem dX5_word_90 : decode cX5_word 90 = .ok (.iload 4, 2) := by decide +kernel
theorem dX5_word_92 : decode cX5_word 92 = .ok (.istore 4, 2) := by decide +kernel
theorem dX5_word_94 : decode cX5_word 94 = .ok (.iinc 5 1, 3) := by decide +kernel
theorem dX5_word_97 : decode cX5_word 97 = .ok (.goto (-31), 3) := by decide +kernel
theorem dX5_word_100 : decode cX5_word 100 = .ok (.iload 4, 2) := by decide +kernel
theorem dX5_word_102 : decode cX5_word 102 = .ok (.ireturn, 1) := by decide +kernel
theorem dX5_number_0 : decode cX5_number 0 = .ok (.aload_n 0, 1) := by decide +kernel
theorem dX5_number_1 : decode cX5_number 1 = .ok (.getfield 164, 3) := by decide +kernel
theorem dX5_number_4 : decode cX5_number 4 = .ok (.istore_n 2, 1) := by decide +kernel
theorem dX5_number_5 : decode cX5_number 5 = .ok (.aload_n 0, 1) := by decide +kernel
theorem dX5_number_6 : decode cX5_number 6 = .ok (.getfield 32, 3) := by decide +kernel
theorem dX5_number_9 : decode cX5_number 9 = .ok (.iload_n 1, 1) := by decide +kernel
theorem dX5_number_10 : decode cX5_number 10 = .ok (.iconst 0, 1) := by decide +kernel
theorem dX5_number_11 : decode cX5_number 11 = .ok (.iastore, 1) := by decide +kernel
theorem dX5_number_12 : decode cX5_number 12 = .ok (.aload_n 0, 1) := by decide +kernel
theorem dX5_number_13 : decode cX5_number 13 = .ok (.bipush 48, 2) := by decide +kernel
theorem dX5_number_15 : decode cX5_number 15 = .ok (.bipush 57, 2) := by decide +kernel
theorem dX5_number_17 : decode cX5_number 17 = .ok (.invokevirtual 167, 3) := by decide +kernel
theorem dX5_number_20 : decode cX5_number 20 = .ok (.ifCond .eq 54, 3) := by decide +kernel
theorem dX5_number_23 : decode cX5_number 23 = .ok (.aload_n 0, 1) := by decide +kernel
theorem dX5_number_24 : decode cX5_number 24 = .ok (.getfield 164, 3) := by decide +kernel
theorem dX5_number_27 : decode cX5_number 27 = .ok (.iload_n 2, 1) := by decide +kernel
theorem dX5_number_28 : decode cX5_number 28 = .ok (.isub, 1) := by decide +kernel
theorem dX5_number_29 : decode cX5_number 29 = .ok (.iconst 4, 1) := by decide +kernel
theorem dX5_number_30 : decode cX5_number 30 = .ok (.if_icmp .ge 44, 3) := by decide +kernel
theorem dX5_number_33 : decode cX5_number 33 = .ok (.aload_n 0, 1) := by decide +kernel
theorem dX5_number_34 : decode cX5_number 34 = .ok (.getfield 32, 3) := by decide +kernel
theorem dX5_number_37 : decode cX5_number 37 = .ok (.iload_n 1, 1) := by decide +kernel
theorem dX5_number_38 : decode cX5_number 38 = .ok (.bipush 10, 2) := by decide +kernel
theorem dX5_number_40 : decode cX5_number 40 = .ok (.aload_n 0, 1) := by decide +kernel
theorem dX5_number_41 : decode cX5_number 41 = .ok (.getfield 32, 3) := by decide +kernel
theorem dX5_number_44 : decode cX5_number 44 = .ok (.iload_n 1, 1) := by decide +kernel
theorem dX5_number_45 : decode cX5_number 45 = .ok (.iaload, 1) := by decide +kernel
theorem dX5_number_46 : decode cX5_number 46 = .ok (.imul, 1) := by decide +kernel
theorem dX5_number_47 : decode cX5_number 47 = .ok (.aload_n 0, 1) := by decide +kernel
theorem dX5_number_48 : decode cX5_number 48 = .ok (.getfield 22, 3) := by decide +kernel
theorem dX5_number_51 : decode cX5_number 51 = .ok (.aload_n 0, 1) := by decide +kernel
theorem dX5_number_52 : decode cX5_number 52 = .ok (.getfield 164, 3) := by decide +kernel
theorem dX5_number_55 : decode cX5_number 55 = .ok (.iaload, 1) := by decide +kernel
theorem dX5_number_56 : decode cX5_number 56 = .ok (.iadd, 1) := by decide +kernel
theorem dX5_number_57 : decode cX5_number 57 = .ok (.bipush 48, 2) := by decide +kernel
theorem dX5_number_59 : decode cX5_number 59 = .ok (.isub, 1) := by decide +kernel
theorem dX5_number_60 : decode cX5_number 60 = .ok (.iastore, 1) := by decide +kernel
theorem dX5_number_61 : decode cX5_number 61 = .ok (.aload_n 0, 1) := by decide +kernel
theorem dX5_number_62 : decode cX5_number 62 = .ok (.dup, 1) := by decide +kernel
theorem dX5_number_63 : decode cX5_number 63 = .ok (.getfield 164, 3) := by decide +kernel
theorem dX5_number_66 : decode cX5_number 66 = .ok (.iconst 1, 1) := by decide +kernel
theorem dX5_number_67 : decode cX5_number 67 = .ok (.iadd, 1) := by decide +kernel
theorem dX5_number_68 : decode cX5_number 68 = .ok (.putfield 164, 3) := by decide +kernel
theorem dX5_number_71 : decode cX5_number 71 = .ok (.goto (-59), 3) := by decide +kernel
theorem dX5_number_74 : decode cX5_number 74 = .ok (.aload_n 0, 1) := by decide +kernel
theorem dX5_number_75 : decode cX5_number 75 = .ok (.getfield 164, 3) := by decide +kernel
theorem dX5_number_78 : decode cX5_number 78 = .ok (.iload_n 2, 1) := by decide +kernel
theorem dX5_number_79 : decode cX5_number 79 = .ok (.if_icmp .le 7, 3) := by decide +kernel
theorem dX5_number_82 : decode cX5_number 82 = .ok (.iconst 1, 1) := by decide +kernel
theorem dX5_number_83 : decode cX5_number 83 = .ok (.goto 4, 3) := by decide +kernel
theorem dX5_number_86 : decode cX5_number 86 = .ok (.iconst 0, 1) := by decide +kernel
theorem dX5_number_87 : decode cX5_number 87 = .ok (.ireturn, 1) := by decide +kernel
theorem dX5_reads_0 : decode cX5_reads 0 = .ok (.aload_n 0, 1) := by decide +kernel
theorem dX5_reads_1 : decode cX5_reads 1 = .ok (.invokevirtual 172, 3) := by decide +kernel
theorem dX5_reads_4 : decode cX5_reads 4 = .ok (.istore_n 1, 1) := by decide +kernel
theorem dX5_reads_5 : decode cX5_reads 5 = .ok (.iload_n 1, 1) := by decide +kernel
theorem dX5_reads_6 : decode cX5_reads 6 = .ok (.ifCond .lt 7, 3) := by decide +kernel
theorem dX5_reads_9 : decode cX5_reads 9 = .ok (.iconst 1, 1) := by decide +kernel
theorem dX5_reads_10 : decode cX5_reads 10 = .ok (.goto 4, 3) := by decide +kernel
theorem dX5_reads_13 : decode cX5_reads 13 = .ok (.iconst 0, 1) := by decide +kernel
theorem dX5_reads_14 : decode cX5_reads 14 = .ok (.istore_n 2, 1) := by decide +kernel
theorem dX5_reads_15 : decode cX5_reads 15 = .ok (.iconst 0, 1) := by decide +kernel
theorem dX5_reads_16 : decode cX5_reads 16 = .ok (.istore_n 3, 1) := by decide +kernel
theorem dX5_reads_17 : decode cX5_reads 17 = .ok (.iload_n 2, 1) := by decide +kernel
theorem dX5_reads_18 : decode cX5_reads 18 = .ok (.ifCond .eq 42, 3) := by decide +kernel
theorem dX5_reads_21 : decode cX5_reads 21 = .ok (.iload_n 3, 1) := by decide +kernel
theorem dX5_reads_22 : decode cX5_reads 22 = .ok (.aload_n 0, 1) := by decide +kernel
theorem dX5_reads_23 : decode cX5_reads 23 = .ok (.getfield 29, 3) := by decide +kernel
theorem dX5_reads_26 : decode cX5_reads 26 = .ok (.iload_n 1, 1) := by decide +kernel
theorem dX5_reads_27 : decode cX5_reads 27 = .ok (.iaload, 1) := by decide +kernel
theorem dX5_reads_28 : decode cX5_reads 28 = .ok (.if_icmp .ge 32, 3) := by decide +kernel
theorem dX5_reads_31 : decode cX5_reads 31 = .ok (.aload_n 0, 1) := by decide +kernel
theorem dX5_reads_32 : decode cX5_reads 32 = .ok (.bipush 32, 2) := by decide +kernel
theorem dX5_reads_34 : decode cX5_reads 34 = .ok (.invokevirtual 176, 3) := by decide +kernel
theorem dX5_reads_37 : decode cX5_reads 37 = .ok (.ifCond .eq 15, 3) := by decide +kernel
theorem dX5_reads_40 : decode cX5_reads 40 = .ok (.aload_n 0, 1) := by decide +kernel
theorem dX5_reads_41 : decode cX5_reads 41 = .ok (.iload_n 3, 1) := by decide +kernel
theorem dX5_reads_42 : decode cX5_reads 42 = .ok (.invokevirtual 179, 3) := by decide +kernel
theorem dX5_reads_45 : decode cX5_reads 45 = .ok (.ifCond .eq 7, 3) := by decide +kernel
theorem dX5_reads_48 : decode cX5_reads 48 = .ok (.iconst 1, 1) := by decide +kernel
theorem dX5_reads_49 : decode cX5_reads 49 = .ok (.goto 4, 3) := by decide +kernel
theorem dX5_reads_52 : decode cX5_reads 52 = .ok (.iconst 0, 1) := by decide +kernel
theorem dX5_reads_53 : decode cX5_reads 53 = .ok (.istore_n 2, 1) := by decide +kernel
theorem dX5_reads_54 : decode cX5_reads 54 = .ok (.iinc 3 1, 3) := by decide +kernel
theorem dX5_reads_57 : decode cX5_reads 57 = .ok (.goto (-40), 3) := by decide +kernel
theorem dX5_reads_60 : decode cX5_reads 60 = .ok (.iload_n 2, 1) := by decide +kernel
theorem dX5_reads_61 : decode cX5_reads 61 = .ok (.ifCond .eq 16, 3) := by decide +kernel
theorem dX5_reads_64 : decode cX5_reads 64 = .ok (.aload_n 0, 1) := by decide +kernel
theorem dX5_reads_65 : decode cX5_reads 65 = .ok (.bipush 59, 2) := by decide +kernel
theorem dX5_reads_67 : decode cX5_reads 67 = .ok (.invokevirtual 176, 3) := by decide +kernel
theorem dX5_reads_70 : decode cX5_reads 70 = .ok (.ifCond .eq 7, 3) := by decide +kernel
theorem dX5_reads_73 : decode cX5_reads 73 = .ok (.iload_n 1, 1) := by decide +kernel
theorem dX5_reads_74 : decode cX5_reads 74 = .ok (.goto 5, 3) := by decide +kernel
theorem dX5_reads_77 : decode cX5_reads 77 = .ok (.bipush (-4), 2) := by decide +kernel
theorem dX5_reads_79 : decode cX5_reads 79 = .ok (.ireturn, 1) := by decide +kernel
theorem dX5_calls_0 : decode cX5_calls 0 = .ok (.iload_n 1, 1) := by decide +kernel
theorem dX5_calls_1 : decode cX5_calls 1 = .ok (.tableswitch 183 0 7 #[47, 70, 99, 110, 115, 132, 155, 172], 47) := by decide +kernel
theorem dX5_calls_48 : decode cX5_calls 48 = .ok (.aload_n 0, 1) := by decide +kernel
theorem dX5_calls_49 : decode cX5_calls 49 = .ok (.aload_n 0, 1) := by decide +kernel
theorem dX5_calls_50 : decode cX5_calls 50 = .ok (.getfield 32, 3) := by decide +kernel
theorem dX5_calls_53 : decode cX5_calls 53 = .ok (.iconst 0, 1) := by decide +kernel
theorem dX5_calls_54 : decode cX5_calls 54 = .ok (.iaload, 1) := by decide +kernel
theorem dX5_calls_55 : decode cX5_calls 55 = .ok (.aload_n 0, 1) := by decide +kernel
theorem dX5_calls_56 : decode cX5_calls 56 = .ok (.getfield 32, 3) := by decide +kernel
theorem dX5_calls_59 : decode cX5_calls 59 = .ok (.iconst 1, 1) := by decide +kernel
theorem dX5_calls_60 : decode cX5_calls 60 = .ok (.iaload, 1) := by decide +kernel
theorem dX5_calls_61 : decode cX5_calls 61 = .ok (.aload_n 0, 1) := by decide +kernel
theorem dX5_calls_62 : decode cX5_calls 62 = .ok (.getfield 32, 3) := by decide +kernel
theorem dX5_calls_65 : decode cX5_calls 65 = .ok (.iconst 2, 1) := by decide +kernel
theorem dX5_calls_66 : decode cX5_calls 66 = .ok (.iaload, 1) := by decide +kernel
theorem dX5_calls_67 : decode cX5_calls 67 = .ok (.invokevirtual 182, 3) := by decide +kernel
theorem dX5_calls_70 : decode cX5_calls 70 = .ok (.ireturn, 1) := by decide +kernel
theorem dX5_calls_71 : decode cX5_calls 71 = .ok (.aload_n 0, 1) := by decide +kernel
theorem dX5_calls_72 : decode cX5_calls 72 = .ok (.aload_n 0, 1) := by decide +kernel
theorem dX5_calls_73 : decode cX5_calls 73 = .ok (.getfield 32, 3) := by decide +kernel
theorem dX5_calls_76 : decode cX5_calls 76 = .ok (.iconst 0, 1) := by decide +kernel
theorem dX5_calls_77 : decode cX5_calls 77 = .ok (.iaload, 1) := by decide +kernel
theorem dX5_calls_78 : decode cX5_calls 78 = .ok (.aload_n 0, 1) := by decide +kernel
theorem dX5_calls_79 : decode cX5_calls 79 = .ok (.getfield 32, 3) := by decide +kernel
theorem dX5_calls_82 : decode cX5_calls 82 = .ok (.iconst 1, 1) := by decide +kernel
theorem dX5_calls_83 : decode cX5_calls 83 = .ok (.iaload, 1) := by decide +kernel
theorem dX5_calls_84 : decode cX5_calls 84 = .ok (.aload_n 0, 1) := by decide +kernel
theorem dX5_calls_85 : decode cX5_calls 85 = .ok (.getfield 32, 3) := by decide +kernel
theorem dX5_calls_88 : decode cX5_calls 88 = .ok (.iconst 2, 1) := by decide +kernel
theorem dX5_calls_89 : decode cX5_calls 89 = .ok (.iaload, 1) := by decide +kernel
theorem dX5_calls_90 : decode cX5_calls 90 = .ok (.aload_n 0, 1) := by decide +kernel
theorem dX5_calls_91 : decode cX5_calls 91 = .ok (.getfield 32, 3) := by decide +kernel
theorem dX5_calls_94 : decode cX5_calls 94 = .ok (.iconst 3, 1) := by decide +kernel
theorem dX5_calls_95 : decode cX5_calls 95 = .ok (.iaload, 1) := by decide +kernel
theorem dX5_calls_96 : decode cX5_calls 96 = .ok (.invokevirtual 186, 3) := by decide +kernel
theorem dX5_calls_99 : decode cX5_calls 99 = .ok (.ireturn, 1) := by decide +kernel
theorem dX5_calls_100 : decode cX5_calls 100 = .ok (.aload_n 0, 1) := by decide +kernel
theorem dX5_calls_101 : decode cX5_calls 101 = .ok (.aload_n 0, 1) := by decide +kernel
theorem dX5_calls_102 : decode cX5_calls 102 = .ok (.getfield 32, 3) := by decide +kernel
theorem dX5_calls_105 : decode cX5_calls 105 = .ok (.iconst 0, 1) := by decide +kernel
theorem dX5_calls_106 : decode cX5_calls 106 = .ok (.iaload, 1) := by decide +kernel
theorem dX5_calls_107 : decode cX5_calls 107 = .ok (.invokevirtual 189, 3) := by decide +kernel
theorem dX5_calls_110 : decode cX5_calls 110 = .ok (.ireturn, 1) := by decide +kernel
theorem dX5_calls_111 : decode cX5_calls 111 = .ok (.aload_n 0, 1) := by decide +kernel
theorem dX5_calls_112 : decode cX5_calls 112 = .ok (.invokevirtual 192, 3) := by decide +kernel
theorem dX5_calls_115 : decode cX5_calls 115 = .ok (.ireturn, 1) := by decide +kernel
theorem dX5_calls_116 : decode cX5_calls 116 = .ok (.aload_n 0, 1) := by decide +kernel
theorem dX5_calls_117 : decode cX5_calls 117 = .ok (.aload_n 0, 1) := by decide +kernel
theorem dX5_calls_118 : decode cX5_calls 118 = .ok (.getfield 32, 3) := by decide +kernel
theorem dX5_calls_121 : decode cX5_calls 121 = .ok (.iconst 0, 1) := by decide +kernel
theorem dX5_calls_122 : decode cX5_calls 122 = .ok (.iaload, 1) := by decide +kernel
theorem dX5_calls_123 : decode cX5_calls 123 = .ok (.aload_n 0, 1) := by decide +kernel
theorem dX5_calls_124 : decode cX5_calls 124 = .ok (.getfield 32, 3) := by decide +kernel
theorem dX5_calls_127 : decode cX5_calls 127 = .ok (.iconst 1, 1) := by decide +kernel
theorem dX5_calls_128 : decode cX5_calls 128 = .ok (.iaload, 1) := by decide +kernel
theorem dX5_calls_129 : decode cX5_calls 129 = .ok (.invokevirtual 195, 3) := by decide +kernel
theorem dX5_calls_132 : decode cX5_calls 132 = .ok (.ireturn, 1) := by decide +kernel
theorem dX5_calls_133 : decode cX5_calls 133 = .ok (.aload_n 0, 1) := by decide +kernel
theorem dX5_calls_134 : decode cX5_calls 134 = .ok (.aload_n 0, 1) := by decide +kernel
theorem dX5_calls_135 : decode cX5_calls 135 = .ok (.getfield 32, 3) := by decide +kernel
theorem dX5_calls_138 : decode cX5_calls 138 = .ok (.iconst 0, 1) := by decide +kernel
theorem dX5_calls_139 : decode cX5_calls 139 = .ok (.iaload, 1) := by decide +kernel
theorem dX5_calls_140 : decode cX5_calls 140 = .ok (.aload_n 0, 1) := by decide +kernel
theorem dX5_calls_141 : decode cX5_calls 141 = .ok (.getfield 32, 3) := by decide +kernel
theorem dX5_calls_144 : decode cX5_calls 144 = .ok (.iconst 1, 1) := by decide +kernel
theorem dX5_calls_145 : decode cX5_calls 145 = .ok (.iaload, 1) := by decide +kernel
theorem dX5_calls_146 : decode cX5_calls 146 = .ok (.aload_n 0, 1) := by decide +kernel
theorem dX5_calls_147 : decode cX5_calls 147 = .ok (.getfield 32, 3) := by decide +kernel
theorem dX5_calls_150 : decode cX5_calls 150 = .ok (.iconst 2, 1) := by decide +kernel
theorem dX5_calls_151 : decode cX5_calls 151 = .ok (.iaload, 1) := by decide +kernel
theorem dX5_calls_152 : decode cX5_calls 152 = .ok (.invokevirtual 198, 3) := by decide +kernel
theorem dX5_calls_155 : decode cX5_calls 155 = .ok (.ireturn, 1) := by decide +kernel
theorem dX5_calls_156 : decode cX5_calls 156 = .ok (.aload_n 0, 1) := by decide +kernel
theorem dX5_calls_157 : decode cX5_calls 157 = .ok (.aload_n 0, 1) := by decide +kernel
theorem dX5_calls_158 : decode cX5_calls 158 = .ok (.getfield 32, 3) := by decide +kernel
theorem dX5_calls_161 : decode cX5_calls 161 = .ok (.iconst 0, 1) := by decide +kernel
theorem dX5_calls_162 : decode cX5_calls 162 = .ok (.iaload, 1) := by decide +kernel
theorem dX5_calls_163 : decode cX5_calls 163 = .ok (.aload_n 0, 1) := by decide +kernel
theorem dX5_calls_164 : decode cX5_calls 164 = .ok (.getfield 32, 3) := by decide +kernel
theorem dX5_calls_167 : decode cX5_calls 167 = .ok (.iconst 1, 1) := by decide +kernel
theorem dX5_calls_168 : decode cX5_calls 168 = .ok (.iaload, 1) := by decide +kernel
theorem dX5_calls_169 : decode cX5_calls 169 = .ok (.invokevirtual 201, 3) := by decide +kernel
theorem dX5_calls_172 : decode cX5_calls 172 = .ok (.ireturn, 1) := by decide +kernel
theorem dX5_calls_173 : decode cX5_calls 173 = .ok (.aload_n 0, 1) := by decide +kernel
theorem dX5_calls_174 : decode cX5_calls 174 = .ok (.aload_n 0, 1) := by decide +kernel
theorem dX5_calls_175 : decode cX5_calls 175 = .ok (.getfield 32, 3) := by decide +kernel
theorem dX5_calls_178 : decode cX5_calls 178 = .ok (.iconst 0, 1) := by decide +kernel
theorem dX5_calls_179 : decode cX5_calls 179 = .ok (.iaload, 1) := by decide +kernel
theorem dX5_calls_180 : decode cX5_calls 180 = .ok (.invokevirtual 204, 3) := by decide +kernel
theorem dX5_calls_183 : decode cX5_calls 183 = .ok (.ireturn, 1) := by decide +kernel
theorem dX5_calls_184 : decode cX5_calls 184 = .ok (.aload_n 0, 1) := by decide +kernel
theorem dX5_calls_185 : decode cX5_calls 185 = .ok (.aload_n 0, 1) := by decide +kernel
theorem dX5_calls_186 : decode cX5_calls 186 = .ok (.getfield 32, 3) := by decide +kernel
theorem dX5_calls_189 : decode cX5_calls 189 = .ok (.iconst 0, 1) := by decide +kernel
theorem dX5_calls_190 : decode cX5_calls 190 = .ok (.iaload, 1) := by decide +kernel
theorem dX5_calls_191 : decode cX5_calls 191 = .ok (.invokevirtual 207, 3) := by decide +kernel
theorem dX5_calls_194 : decode cX5_calls 194 = .ok (.ireturn, 1) := by decide +kernel
theorem dX5_plays_0 : decode cX5_plays 0 = .ok (.aload_n 0, 1) := by decide +kernel
theorem dX5_plays_1 : decode cX5_plays 1 = .ok (.iconst 1, 1) := by decide +kernel
theorem dX5_plays_2 : decode cX5_plays 2 = .ok (.putfield 57, 3) := by decide +kernel
theorem dX5_plays_5 : decode cX5_plays 5 = .ok (.aload_n 0, 1) := by decide +kernel
theorem dX5_plays_6 : decode cX5_plays 6 = .ok (.iconst 0, 1) := by decide +kernel
theorem dX5_plays_7 : decode cX5_plays 7 = .ok (.putfield 164, 3) := by decide +kernel
theorem dX5_plays_10 : decode cX5_plays 10 = .ok (.aload_n 0, 1) := by decide +kernel
theorem dX5_plays_11 : decode cX5_plays 11 = .ok (.iconst 0, 1) := by decide +kernel
theorem dX5_plays_12 : decode cX5_plays 12 = .ok (.putfield 210, 3) := by decide +kernel
theorem dX5_plays_15 : decode cX5_plays 15 = .ok (.iconst 0, 1) := by decide +kernel
theorem dX5_plays_16 : decode cX5_plays 16 = .ok (.istore_n 1, 1) := by decide +kernel
theorem dX5_plays_17 : decode cX5_plays 17 = .ok (.iconst 1, 1) := by decide +kernel
theorem dX5_plays_18 : decode cX5_plays 18 = .ok (.istore_n 2, 1) := by decide +kernel
theorem dX5_plays_19 : decode cX5_plays 19 = .ok (.aload_n 0, 1) := by decide +kernel
theorem dX5_plays_20 : decode cX5_plays 20 = .ok (.getfield 164, 3) := by decide +kernel
theorem dX5_plays_23 : decode cX5_plays 23 = .ok (.aload_n 0, 1) := by decide +kernel
theorem dX5_plays_24 : decode cX5_plays 24 = .ok (.getfield 161, 3) := by decide +kernel
theorem dX5_plays_27 : decode cX5_plays 27 = .ok (.if_icmp .ge 64, 3) := by decide +kernel
theorem dX5_plays_30 : decode cX5_plays 30 = .ok (.iload_n 2, 1) := by decide +kernel
theorem dX5_plays_31 : decode cX5_plays 31 = .ok (.ifCond .eq 60, 3) := by decide +kernel
theorem dX5_plays_34 : decode cX5_plays 34 = .ok (.aload_n 0, 1) := by decide +kernel
theorem dX5_plays_35 : decode cX5_plays 35 = .ok (.getfield 164, 3) := by decide +kernel
theorem dX5_plays_38 : decode cX5_plays 38 = .ok (.istore_n 1, 1) := by decide +kernel
theorem dX5_plays_39 : decode cX5_plays 39 = .ok (.aload_n 0, 1) := by decide +kernel
theorem dX5_plays_40 : decode cX5_plays 40 = .ok (.invokevirtual 213, 3) := by decide +kernel
theorem dX5_plays_43 : decode cX5_plays 43 = .ok (.istore_n 3, 1) := by decide +kernel
theorem dX5_plays_44 : decode cX5_plays 44 = .ok (.aload_n 0, 1) := by decide +kernel
theorem dX5_plays_45 : decode cX5_plays 45 = .ok (.iload_n 3, 1) := by decide +kernel
theorem dX5_plays_46 : decode cX5_plays 46 = .ok (.ifCond .ge 7, 3) := by decide +kernel
theorem dX5_plays_49 : decode cX5_plays 49 = .ok (.iconst 0, 1) := by decide +kernel
theorem dX5_plays_50 : decode cX5_plays 50 = .ok (.goto 8, 3) := by decide +kernel
theorem dX5_plays_53 : decode cX5_plays 53 = .ok (.aload_n 0, 1) := by decide +kernel
theorem dX5_plays_54 : decode cX5_plays 54 = .ok (.iload_n 3, 1) := by decide +kernel
theorem dX5_plays_55 : decode cX5_plays 55 = .ok (.invokevirtual 216, 3) := by decide +kernel
theorem dX5_plays_58 : decode cX5_plays 58 = .ok (.putfield 219, 3) := by decide +kernel
theorem dX5_plays_61 : decode cX5_plays 61 = .ok (.iload_n 3, 1) := by decide +kernel
theorem dX5_plays_62 : decode cX5_plays 62 = .ok (.ifCond .lt 14, 3) := by decide +kernel
theorem dX5_plays_65 : decode cX5_plays 65 = .ok (.aload_n 0, 1) := by decide +kernel
theorem dX5_plays_66 : decode cX5_plays 66 = .ok (.getfield 219, 3) := by decide +kernel
theorem dX5_plays_69 : decode cX5_plays 69 = .ok (.ifCond .lt 7, 3) := by decide +kernel
theorem dX5_plays_72 : decode cX5_plays 72 = .ok (.iconst 1, 1) := by decide +kernel
theorem dX5_plays_73 : decode cX5_plays 73 = .ok (.goto 4, 3) := by decide +kernel
theorem dX5_plays_76 : decode cX5_plays 76 = .ok (.iconst 0, 1) := by decide +kernel
theorem dX5_plays_77 : decode cX5_plays 77 = .ok (.istore_n 2, 1) := by decide +kernel
theorem dX5_plays_78 : decode cX5_plays 78 = .ok (.aload_n 0, 1) := by decide +kernel
theorem dX5_plays_79 : decode cX5_plays 79 = .ok (.dup, 1) := by decide +kernel
theorem dX5_plays_80 : decode cX5_plays 80 = .ok (.getfield 210, 3) := by decide +kernel
theorem dX5_plays_83 : decode cX5_plays 83 = .ok (.iconst 1, 1) := by decide +kernel
theorem dX5_plays_84 : decode cX5_plays 84 = .ok (.iadd, 1) := by decide +kernel
theorem dX5_plays_85 : decode cX5_plays 85 = .ok (.putfield 210, 3) := by decide +kernel
theorem dX5_plays_88 : decode cX5_plays 88 = .ok (.goto (-69), 3) := by decide +kernel
theorem dX5_plays_91 : decode cX5_plays 91 = .ok (.aload_n 0, 1) := by decide +kernel
theorem dX5_plays_92 : decode cX5_plays 92 = .ok (.iconst 0, 1) := by decide +kernel
theorem dX5_plays_93 : decode cX5_plays 93 = .ok (.putfield 57, 3) := by decide +kernel
theorem dX5_plays_96 : decode cX5_plays 96 = .ok (.iload_n 2, 1) := by decide +kernel
theorem dX5_plays_97 : decode cX5_plays 97 = .ok (.ifCond .eq 8, 3) := by decide +kernel
theorem dX5_plays_100 : decode cX5_plays 100 = .ok (.bipush (-4), 2) := by decide +kernel
theorem dX5_plays_102 : decode cX5_plays 102 = .ok (.goto 4, 3) := by decide +kernel
theorem dX5_plays_105 : decode cX5_plays 105 = .ok (.iload_n 1, 1) := by decide +kernel
theorem dX5_plays_106 : decode cX5_plays 106 = .ok (.ireturn, 1) := by decide +kernel
theorem dX5_fault_0 : decode cX5_fault 0 = .ok (.iload_n 1, 1) := by decide +kernel
theorem dX5_fault_1 : decode cX5_fault 1 = .ok (.iconst 0, 1) := by decide +kernel
theorem dX5_fault_2 : decode cX5_fault 2 = .ok (.iconst 2, 1) := by decide +kernel
theorem dX5_fault_3 : decode cX5_fault 3 = .ok (.invokestatic 82, 3) := by decide +kernel
theorem dX5_fault_6 : decode cX5_fault 6 = .ok (.ifCond .ne 5, 3) := by decide +kernel
theorem dX5_fault_9 : decode cX5_fault 9 = .ok (.iconst (-1), 1) := by decide +kernel
theorem dX5_fault_10 : decode cX5_fault 10 = .ok (.ireturn, 1) := by decide +kernel
theorem dX5_fault_11 : decode cX5_fault 11 = .ok (.aload_n 0, 1) := by decide +kernel
theorem dX5_fault_12 : decode cX5_fault 12 = .ok (.getfield 7, 3) := by decide +kernel
theorem dX5_fault_15 : decode cX5_fault 15 = .ok (.aload_n 0, 1) := by decide +kernel
theorem dX5_fault_16 : decode cX5_fault 16 = .ok (.getfield 16, 3) := by decide +kernel
theorem dX5_fault_19 : decode cX5_fault 19 = .ok (.invokestatic 128, 3) := by decide +kernel
theorem dX5_fault_22 : decode cX5_fault 22 = .ok (.aload_n 0, 1) := by decide +kernel
theorem dX5_fault_23 : decode cX5_fault 23 = .ok (.invokevirtual 222, 3) := by decide +kernel
theorem dX5_fault_26 : decode cX5_fault 26 = .ok (.istore_n 2, 1) := by decide +kernel
theorem dX5_fault_27 : decode cX5_fault 27 = .ok (.aload_n 0, 1) := by decide +kernel
theorem dX5_fault_28 : decode cX5_fault 28 = .ok (.getfield 16, 3) := by decide +kernel
theorem dX5_fault_31 : decode cX5_fault 31 = .ok (.aload_n 0, 1) := by decide +kernel
theorem dX5_fault_32 : decode cX5_fault 32 = .ok (.getfield 7, 3) := by decide +kernel
theorem dX5_fault_35 : decode cX5_fault 35 = .ok (.invokestatic 128, 3) := by decide +kernel
theorem dX5_fault_38 : decode cX5_fault 38 = .ok (.iload_n 2, 1) := by decide +kernel
theorem dX5_fault_39 : decode cX5_fault 39 = .ok (.bipush (-4), 2) := by decide +kernel
theorem dX5_fault_41 : decode cX5_fault 41 = .ok (.if_icmp .eq 7, 3) := by decide +kernel
theorem dX5_fault_44 : decode cX5_fault 44 = .ok (.iload_n 1, 1) := by decide +kernel
theorem dX5_fault_45 : decode cX5_fault 45 = .ok (.ifCond .ne 7, 3) := by decide +kernel
theorem dX5_fault_48 : decode cX5_fault 48 = .ok (.iload_n 2, 1) := by decide +kernel
theorem dX5_fault_49 : decode cX5_fault 49 = .ok (.goto 39, 3) := by decide +kernel
theorem dX5_fault_52 : decode cX5_fault 52 = .ok (.iload_n 1, 1) := by decide +kernel
theorem dX5_fault_53 : decode cX5_fault 53 = .ok (.iconst 1, 1) := by decide +kernel
theorem dX5_fault_54 : decode cX5_fault 54 = .ok (.if_icmp .ne 18, 3) := by decide +kernel
theorem dX5_fault_57 : decode cX5_fault 57 = .ok (.aload_n 0, 1) := by decide +kernel
theorem dX5_fault_58 : decode cX5_fault 58 = .ok (.getfield 219, 3) := by decide +kernel
theorem dX5_fault_61 : decode cX5_fault 61 = .ok (.ifCond .ne 7, 3) := by decide +kernel
theorem dX5_fault_64 : decode cX5_fault 64 = .ok (.iconst 1, 1) := by decide +kernel
theorem dX5_fault_65 : decode cX5_fault 65 = .ok (.goto 23, 3) := by decide +kernel
theorem dX5_fault_68 : decode cX5_fault 68 = .ok (.iconst 2, 1) := by decide +kernel
theorem dX5_fault_69 : decode cX5_fault 69 = .ok (.goto 19, 3) := by decide +kernel
theorem dX5_fault_72 : decode cX5_fault 72 = .ok (.aload_n 0, 1) := by decide +kernel
theorem dX5_fault_73 : decode cX5_fault 73 = .ok (.getfield 219, 3) := by decide +kernel
theorem dX5_fault_76 : decode cX5_fault 76 = .ok (.ifCond .ne 8, 3) := by decide +kernel
theorem dX5_fault_79 : decode cX5_fault 79 = .ok (.bipush (-4), 2) := by decide +kernel
theorem dX5_fault_81 : decode cX5_fault 81 = .ok (.goto 7, 3) := by decide +kernel
theorem dX5_fault_84 : decode cX5_fault 84 = .ok (.aload_n 0, 1) := by decide +kernel
theorem dX5_fault_85 : decode cX5_fault 85 = .ok (.getfield 219, 3) := by decide +kernel
theorem dX5_fault_88 : decode cX5_fault 88 = .ok (.ireturn, 1) := by decide +kernel
theorem dX5_play_0 : decode cX5_play 0 = .ok (.aload_n 0, 1) := by decide +kernel
theorem dX5_play_1 : decode cX5_play 1 = .ok (.getfield 7, 3) := by decide +kernel
theorem dX5_play_4 : decode cX5_play 4 = .ok (.aload_n 0, 1) := by decide +kernel
theorem dX5_play_5 : decode cX5_play 5 = .ok (.getfield 16, 3) := by decide +kernel
theorem dX5_play_8 : decode cX5_play 8 = .ok (.invokestatic 128, 3) := by decide +kernel
theorem dX5_play_11 : decode cX5_play 11 = .ok (.aload_n 0, 1) := by decide +kernel
theorem dX5_play_12 : decode cX5_play 12 = .ok (.invokevirtual 222, 3) := by decide +kernel
theorem dX5_play_15 : decode cX5_play 15 = .ok (.istore_n 1, 1) := by decide +kernel
theorem dX5_play_16 : decode cX5_play 16 = .ok (.aload_n 0, 1) := by decide +kernel
theorem dX5_play_17 : decode cX5_play 17 = .ok (.getfield 16, 3) := by decide +kernel
theorem dX5_play_20 : decode cX5_play 20 = .ok (.aload_n 0, 1) := by decide +kernel
theorem dX5_play_21 : decode cX5_play 21 = .ok (.getfield 7, 3) := by decide +kernel
theorem dX5_play_24 : decode cX5_play 24 = .ok (.invokestatic 128, 3) := by decide +kernel
theorem dX5_play_27 : decode cX5_play 27 = .ok (.iload_n 1, 1) := by decide +kernel
theorem dX5_play_28 : decode cX5_play 28 = .ok (.bipush (-4), 2) := by decide +kernel
theorem dX5_play_30 : decode cX5_play 30 = .ok (.if_icmp .eq 6, 3) := by decide +kernel
theorem dX5_play_33 : decode cX5_play 33 = .ok (.bipush (-2), 2) := by decide +kernel
theorem dX5_play_35 : decode cX5_play 35 = .ok (.ireturn, 1) := by decide +kernel
theorem dX5_play_36 : decode cX5_play 36 = .ok (.aload_n 0, 1) := by decide +kernel
theorem dX5_play_37 : decode cX5_play 37 = .ok (.invokevirtual 73, 3) := by decide +kernel
theorem dX5_play_40 : decode cX5_play 40 = .ok (.aload_n 0, 1) := by decide +kernel
theorem dX5_play_41 : decode cX5_play 41 = .ok (.invokevirtual 222, 3) := by decide +kernel
theorem dX5_play_44 : decode cX5_play 44 = .ok (.bipush (-4), 2) := by decide +kernel
theorem dX5_play_46 : decode cX5_play 46 = .ok (.if_icmp .ne 10, 3) := by decide +kernel
theorem dX5_play_49 : decode cX5_play 49 = .ok (.aload_n 0, 1) := by decide +kernel
theorem dX5_play_50 : decode cX5_play 50 = .ok (.getfield 210, 3) := by decide +kernel
theorem dX5_play_53 : decode cX5_play 53 = .ok (.goto 5, 3) := by decide +kernel
theorem dX5_play_56 : decode cX5_play 56 = .ok (.bipush (-4), 2) := by decide +kernel
theorem dX5_play_58 : decode cX5_play 58 = .ok (.ireturn, 1) := by decide +kernel
theorem dJ9_max_7cf53_0 : decode cJ9_max_7cf53 0 = .ok (.iload_n 0, 1) := by decide +kernel
theorem dJ9_max_7cf53_1 : decode cJ9_max_7cf53 1 = .ok (.iload_n 1, 1) := by decide +kernel
theorem dJ9_max_7cf53_2 : decode cJ9_max_7cf53 2 = .ok (.if_icmp .lt 7, 3) := by decide +kernel
theorem dJ9_max_7cf53_5 : decode cJ9_max_7cf53 5 = .ok (.iload_n 0, 1) := by decide +kernel
theorem dJ9_max_7cf53_6 : decode cJ9_max_7cf53 6 = .ok (.goto 4, 3) := by decide +kernel
theorem dJ9_max_7cf53_9 : decode cJ9_max_7cf53 9 = .ok (.iload_n 1, 1) := by decide +kernel
theorem dJ9_max_7cf53_10 : decode cJ9_max_7cf53 10 = .ok (.ireturn, 1) := by decide +kernel
theorem dJ9_min_7cf53_0 : decode cJ9_min_7cf53 0 = .ok (.iload_n 0, 1) := by decide +kernel
theorem dJ9_min_7cf53_1 : decode cJ9_min_7cf53 1 = .ok (.iload_n 1, 1) := by decide +kernel
theorem dJ9_min_7cf53_2 : decode cJ9_min_7cf53 2 = .ok (.if_icmp .gt 7, 3) := by decide +kernel
theorem dJ9_min_7cf53_5 : decode cJ9_min_7cf53 5 = .ok (.iload_n 0, 1) := by decide +kernel
theorem dJ9_min_7cf53_6 : decode cJ9_min_7cf53 6 = .ok (.goto 4, 3) := by decide +kernel
theorem dJ9_min_7cf53_9 : decode cJ9_min_7cf53 9 = .ok (.iload_n 1, 1) := by decide +kernel
theorem dJ9_min_7cf53_10 : decode cJ9_min_7cf53 10 = .ok (.ireturn, 1) := by decide +kernel
theorem dJ0_length_8abf5_0 : decode cJ0_length_8abf5 0 = .ok (.aload_n 0, 1) := by decide +kernel
theorem dJ0_length_8abf5_1 : decode cJ0_length_8abf5 1 = .ok (.getfield 9, 3) := by decide +kernel
theorem dJ0_length_8abf5_4 : decode cJ0_length_8abf5 4 = .ok (.arraylength, 1) := by decide +kernel
theorem dJ0_length_8abf5_5 : decode cJ0_length_8abf5 5 = .ok (.aload_n 0, 1) := by decide +kernel
theorem dJ0_length_8abf5_6 : decode cJ0_length_8abf5 6 = .ok (.invokevirtual 335, 3) := by decide +kernel
theorem dJ0_length_8abf5_9 : decode cJ0_length_8abf5 9 = .ok (.ishr, 1) := by decide +kernel
theorem dJ0_length_8abf5_10 : decode cJ0_length_8abf5 10 = .ok (.ireturn, 1) := by decide +kernel
theorem dJ0_charAt_5068e_0 : decode cJ0_charAt_5068e 0 = .ok (.aload_n 0, 1) := by decide +kernel
theorem dJ0_charAt_5068e_1 : decode cJ0_charAt_5068e 1 = .ok (.invokevirtual 492, 3) := by decide +kernel
theorem dJ0_charAt_5068e_4 : decode cJ0_charAt_5068e 4 = .ok (.ifCond .eq 12, 3) := by decide +kernel
theorem dJ0_charAt_5068e_7 : decode cJ0_charAt_5068e 7 = .ok (.aload_n 0, 1) := by decide +kernel
theorem dJ0_charAt_5068e_8 : decode cJ0_charAt_5068e 8 = .ok (.getfield 9, 3) := by decide +kernel
theorem dJ0_charAt_5068e_11 : decode cJ0_charAt_5068e 11 = .ok (.iload_n 1, 1) := by decide +kernel
theorem dJ0_charAt_5068e_12 : decode cJ0_charAt_5068e 12 = .ok (.invokestatic 495, 3) := by decide +kernel
theorem dJ0_charAt_5068e_15 : decode cJ0_charAt_5068e 15 = .ok (.ireturn, 1) := by decide +kernel
theorem dJ0_charAt_5068e_16 : decode cJ0_charAt_5068e 16 = .ok (.aload_n 0, 1) := by decide +kernel
theorem dJ0_charAt_5068e_17 : decode cJ0_charAt_5068e 17 = .ok (.getfield 9, 3) := by decide +kernel
theorem dJ0_charAt_5068e_20 : decode cJ0_charAt_5068e 20 = .ok (.iload_n 1, 1) := by decide +kernel
theorem dJ0_charAt_5068e_21 : decode cJ0_charAt_5068e 21 = .ok (.invokestatic 498, 3) := by decide +kernel
theorem dJ0_charAt_5068e_24 : decode cJ0_charAt_5068e 24 = .ok (.ireturn, 1) := by decide +kernel
theorem dJ0_coder_7d493_0 : decode cJ0_coder_7d493 0 = .ok (.getstatic 38, 3) := by decide +kernel
theorem dJ0_coder_7d493_3 : decode cJ0_coder_7d493 3 = .ok (.ifCond .eq 10, 3) := by decide +kernel
theorem dJ0_coder_7d493_6 : decode cJ0_coder_7d493 6 = .ok (.aload_n 0, 1) := by decide +kernel
theorem dJ0_coder_7d493_7 : decode cJ0_coder_7d493 7 = .ok (.getfield 15, 3) := by decide +kernel
theorem dJ0_coder_7d493_10 : decode cJ0_coder_7d493 10 = .ok (.goto 4, 3) := by decide +kernel
theorem dJ0_coder_7d493_13 : decode cJ0_coder_7d493 13 = .ok (.iconst 1, 1) := by decide +kernel
theorem dJ0_coder_7d493_14 : decode cJ0_coder_7d493 14 = .ok (.ireturn, 1) := by decide +kernel
theorem dJ0_isLatin1_aae02_0 : decode cJ0_isLatin1_aae02 0 = .ok (.getstatic 38, 3) := by decide +kernel
theorem dJ0_isLatin1_aae02_3 : decode cJ0_isLatin1_aae02 3 = .ok (.ifCond .eq 14, 3) := by decide +kernel
theorem dJ0_isLatin1_aae02_6 : decode cJ0_isLatin1_aae02 6 = .ok (.aload_n 0, 1) := by decide +kernel
theorem dJ0_isLatin1_aae02_7 : decode cJ0_isLatin1_aae02 7 = .ok (.getfield 15, 3) := by decide +kernel
theorem dJ0_isLatin1_aae02_10 : decode cJ0_isLatin1_aae02 10 = .ok (.ifCond .ne 7, 3) := by decide +kernel
theorem dJ0_isLatin1_aae02_13 : decode cJ0_isLatin1_aae02 13 = .ok (.iconst 1, 1) := by decide +kernel
theorem dJ0_isLatin1_aae02_14 : decode cJ0_isLatin1_aae02 14 = .ok (.goto 4, 3) := by decide +kernel
theorem dJ0_isLatin1_aae02_17 : decode cJ0_isLatin1_aae02 17 = .ok (.iconst 0, 1) := by decide +kernel
theorem dJ0_isLatin1_aae02_18 : decode cJ0_isLatin1_aae02 18 = .ok (.ireturn, 1) := by decide +kernel
theorem dJ0_checkIndex_df160_0 : decode cJ0_checkIndex_df160 0 = .ok (.iload_n 0, 1) := by decide +kernel
theorem dJ0_checkIndex_df160_1 : decode cJ0_checkIndex_df160 1 = .ok (.iload_n 1, 1) := by decide +kernel
theorem dJ0_checkIndex_df160_2 : decode cJ0_checkIndex_df160 2 = .ok (.getstatic 1053, 3) := by decide +kernel
theorem dJ0_checkIndex_df160_5 : decode cJ0_checkIndex_df160 5 = .ok (.invokestatic 1059, 3) := by decide +kernel
theorem dJ0_checkIndex_df160_8 : decode cJ0_checkIndex_df160 8 = .ok (.pop, 1) := by decide +kernel
theorem dJ0_checkIndex_df160_9 : decode cJ0_checkIndex_df160 9 = .ok (.return_, 1) := by decide +kernel
theorem dJ1_charAt_3b067_0 : decode cJ1_charAt_3b067 0 = .ok (.iload_n 1, 1) := by decide +kernel
theorem dJ1_charAt_3b067_1 : decode cJ1_charAt_3b067 1 = .ok (.aload_n 0, 1) := by decide +kernel
theorem dJ1_charAt_3b067_2 : decode cJ1_charAt_3b067 2 = .ok (.arraylength, 1) := by decide +kernel
theorem dJ1_charAt_3b067_3 : decode cJ1_charAt_3b067 3 = .ok (.invokestatic 9, 3) := by decide +kernel
theorem dJ1_charAt_3b067_6 : decode cJ1_charAt_3b067 6 = .ok (.aload_n 0, 1) := by decide +kernel
theorem dJ1_charAt_3b067_7 : decode cJ1_charAt_3b067 7 = .ok (.iload_n 1, 1) := by decide +kernel
theorem dJ1_charAt_3b067_8 : decode cJ1_charAt_3b067 8 = .ok (.baload, 1) := by decide +kernel
theorem dJ1_charAt_3b067_9 : decode cJ1_charAt_3b067 9 = .ok (.sipush 255, 3) := by decide +kernel
theorem dJ1_charAt_3b067_12 : decode cJ1_charAt_3b067 12 = .ok (.iand, 1) := by decide +kernel
theorem dJ1_charAt_3b067_13 : decode cJ1_charAt_3b067 13 = .ok (.i2c, 1) := by decide +kernel
theorem dJ1_charAt_3b067_14 : decode cJ1_charAt_3b067 14 = .ok (.ireturn, 1) := by decide +kernel
theorem dJ2_getChar_3b067_0 : decode cJ2_getChar_3b067 0 = .ok (.getstatic 44, 3) := by decide +kernel
theorem dJ2_getChar_3b067_3 : decode cJ2_getChar_3b067 3 = .ok (.ifCond .ne 25, 3) := by decide +kernel
theorem dJ2_getChar_3b067_6 : decode cJ2_getChar_3b067 6 = .ok (.iload_n 1, 1) := by decide +kernel
theorem dJ2_getChar_3b067_7 : decode cJ2_getChar_3b067 7 = .ok (.ifCond .lt 11, 3) := by decide +kernel
theorem dJ2_getChar_3b067_10 : decode cJ2_getChar_3b067 10 = .ok (.iload_n 1, 1) := by decide +kernel
theorem dJ2_getChar_3b067_11 : decode cJ2_getChar_3b067 11 = .ok (.aload_n 0, 1) := by decide +kernel
theorem dJ2_getChar_3b067_12 : decode cJ2_getChar_3b067 12 = .ok (.invokestatic 48, 3) := by decide +kernel
theorem dJ2_getChar_3b067_15 : decode cJ2_getChar_3b067 15 = .ok (.if_icmp .lt 13, 3) := by decide +kernel
theorem dJ2_getChar_3b067_18 : decode cJ2_getChar_3b067 18 = .ok (.new 52, 3) := by decide +kernel
theorem dJ2_getChar_3b067_21 : decode cJ2_getChar_3b067 21 = .ok (.dup, 1) := by decide +kernel
theorem dJ2_getChar_3b067_22 : decode cJ2_getChar_3b067 22 = .ok (.ldc 54, 2) := by decide +kernel
theorem dJ2_getChar_3b067_24 : decode cJ2_getChar_3b067 24 = .ok (.invokespecial 56, 3) := by decide +kernel
theorem dJ2_getChar_3b067_27 : decode cJ2_getChar_3b067 27 = .ok (.athrow, 1) := by decide +kernel
theorem dJ2_getChar_3b067_28 : decode cJ2_getChar_3b067 28 = .ok (.iload_n 1, 1) := by decide +kernel
theorem dJ2_getChar_3b067_29 : decode cJ2_getChar_3b067 29 = .ok (.iconst 1, 1) := by decide +kernel
theorem dJ2_getChar_3b067_30 : decode cJ2_getChar_3b067 30 = .ok (.ishl, 1) := by decide +kernel
theorem dJ2_getChar_3b067_31 : decode cJ2_getChar_3b067 31 = .ok (.istore_n 1, 1) := by decide +kernel
theorem dJ2_getChar_3b067_32 : decode cJ2_getChar_3b067 32 = .ok (.aload_n 0, 1) := by decide +kernel
theorem dJ2_getChar_3b067_33 : decode cJ2_getChar_3b067 33 = .ok (.iload_n 1, 1) := by decide +kernel
theorem dJ2_getChar_3b067_34 : decode cJ2_getChar_3b067 34 = .ok (.iinc 1 1, 3) := by decide +kernel
theorem dJ2_getChar_3b067_37 : decode cJ2_getChar_3b067 37 = .ok (.baload, 1) := by decide +kernel
theorem dJ2_getChar_3b067_38 : decode cJ2_getChar_3b067 38 = .ok (.sipush 255, 3) := by decide +kernel
theorem dJ2_getChar_3b067_41 : decode cJ2_getChar_3b067 41 = .ok (.iand, 1) := by decide +kernel
theorem dJ2_getChar_3b067_42 : decode cJ2_getChar_3b067 42 = .ok (.getstatic 59, 3) := by decide +kernel
theorem dJ2_getChar_3b067_45 : decode cJ2_getChar_3b067 45 = .ok (.ishl, 1) := by decide +kernel
theorem dJ2_getChar_3b067_46 : decode cJ2_getChar_3b067 46 = .ok (.aload_n 0, 1) := by decide +kernel
theorem dJ2_getChar_3b067_47 : decode cJ2_getChar_3b067 47 = .ok (.iload_n 1, 1) := by decide +kernel
theorem dJ2_getChar_3b067_48 : decode cJ2_getChar_3b067 48 = .ok (.baload, 1) := by decide +kernel
theorem dJ2_getChar_3b067_49 : decode cJ2_getChar_3b067 49 = .ok (.sipush 255, 3) := by decide +kernel
theorem dJ2_getChar_3b067_52 : decode cJ2_getChar_3b067 52 = .ok (.iand, 1) := by decide +kernel
theorem dJ2_getChar_3b067_53 : decode cJ2_getChar_3b067 53 = .ok (.getstatic 63, 3) := by decide +kernel
theorem dJ2_getChar_3b067_56 : decode cJ2_getChar_3b067 56 = .ok (.ishl, 1) := by decide +kernel
theorem dJ2_getChar_3b067_57 : decode cJ2_getChar_3b067 57 = .ok (.ior, 1) := by decide +kernel
theorem dJ2_getChar_3b067_58 : decode cJ2_getChar_3b067 58 = .ok (.i2c, 1) := by decide +kernel
theorem dJ2_getChar_3b067_59 : decode cJ2_getChar_3b067 59 = .ok (.ireturn, 1) := by decide +kernel
theorem dJ2_length_9d52b_0 : decode cJ2_length_9d52b 0 = .ok (.aload_n 0, 1) := by decide +kernel
theorem dJ2_length_9d52b_1 : decode cJ2_length_9d52b 1 = .ok (.arraylength, 1) := by decide +kernel
theorem dJ2_length_9d52b_2 : decode cJ2_length_9d52b 2 = .ok (.iconst 1, 1) := by decide +kernel
theorem dJ2_length_9d52b_3 : decode cJ2_length_9d52b 3 = .ok (.ishr, 1) := by decide +kernel
theorem dJ2_length_9d52b_4 : decode cJ2_length_9d52b 4 = .ok (.ireturn, 1) := by decide +kernel
theorem dJ2_charAt_3b067_0 : decode cJ2_charAt_3b067 0 = .ok (.iload_n 1, 1) := by decide +kernel
theorem dJ2_charAt_3b067_1 : decode cJ2_charAt_3b067 1 = .ok (.aload_n 0, 1) := by decide +kernel
theorem dJ2_charAt_3b067_2 : decode cJ2_charAt_3b067 2 = .ok (.invokestatic 67, 3) := by decide +kernel
theorem dJ2_charAt_3b067_5 : decode cJ2_charAt_3b067 5 = .ok (.aload_n 0, 1) := by decide +kernel
theorem dJ2_charAt_3b067_6 : decode cJ2_charAt_3b067 6 = .ok (.iload_n 1, 1) := by decide +kernel
theorem dJ2_charAt_3b067_7 : decode cJ2_charAt_3b067 7 = .ok (.invokestatic 71, 3) := by decide +kernel
theorem dJ2_charAt_3b067_10 : decode cJ2_charAt_3b067 10 = .ok (.ireturn, 1) := by decide +kernel
theorem dJ2_checkIndex_2214a_0 : decode cJ2_checkIndex_2214a 0 = .ok (.iload_n 0, 1) := by decide +kernel
theorem dJ2_checkIndex_2214a_1 : decode cJ2_checkIndex_2214a 1 = .ok (.aload_n 1, 1) := by decide +kernel
theorem dJ2_checkIndex_2214a_2 : decode cJ2_checkIndex_2214a 2 = .ok (.invokestatic 48, 3) := by decide +kernel
theorem dJ2_checkIndex_2214a_5 : decode cJ2_checkIndex_2214a 5 = .ok (.invokestatic 414, 3) := by decide +kernel
theorem dJ2_checkIndex_2214a_8 : decode cJ2_checkIndex_2214a 8 = .ok (.return_, 1) := by decide +kernel
theorem dJ3_checkIndex_8e157_0 : decode cJ3_checkIndex_8e157 0 = .ok (.iload_n 0, 1) := by decide +kernel
theorem dJ3_checkIndex_8e157_1 : decode cJ3_checkIndex_8e157 1 = .ok (.ifCond .lt 8, 3) := by decide +kernel
theorem dJ3_checkIndex_8e157_4 : decode cJ3_checkIndex_8e157 4 = .ok (.iload_n 0, 1) := by decide +kernel
theorem dJ3_checkIndex_8e157_5 : decode cJ3_checkIndex_8e157 5 = .ok (.iload_n 1, 1) := by decide +kernel
theorem dJ3_checkIndex_8e157_6 : decode cJ3_checkIndex_8e157 6 = .ok (.if_icmp .lt 10, 3) := by decide +kernel
theorem dJ3_checkIndex_8e157_9 : decode cJ3_checkIndex_8e157 9 = .ok (.aload_n 2, 1) := by decide +kernel
theorem dJ3_checkIndex_8e157_10 : decode cJ3_checkIndex_8e157 10 = .ok (.iload_n 0, 1) := by decide +kernel
theorem dJ3_checkIndex_8e157_11 : decode cJ3_checkIndex_8e157 11 = .ok (.iload_n 1, 1) := by decide +kernel
theorem dJ3_checkIndex_8e157_12 : decode cJ3_checkIndex_8e157 12 = .ok (.invokestatic 95, 3) := by decide +kernel
theorem dJ3_checkIndex_8e157_15 : decode cJ3_checkIndex_8e157 15 = .ok (.athrow, 1) := by decide +kernel
theorem dJ3_checkIndex_8e157_16 : decode cJ3_checkIndex_8e157 16 = .ok (.iload_n 0, 1) := by decide +kernel
theorem dJ3_checkIndex_8e157_17 : decode cJ3_checkIndex_8e157 17 = .ok (.ireturn, 1) := by decide +kernel
theorem dL_law_0 : decode cL_law 0 = .ok (.new 7, 3) := by decide +kernel
theorem dL_law_3 : decode cL_law 3 = .ok (.dup, 1) := by decide +kernel
theorem dL_law_4 : decode cL_law 4 = .ok (.invokespecial 9, 3) := by decide +kernel
theorem dL_law_7 : decode cL_law 7 = .ok (.astore_n 1, 1) := by decide +kernel
theorem dL_law_8 : decode cL_law 8 = .ok (.new 10, 3) := by decide +kernel
theorem dL_law_11 : decode cL_law 11 = .ok (.dup, 1) := by decide +kernel
theorem dL_law_12 : decode cL_law 12 = .ok (.invokespecial 12, 3) := by decide +kernel
theorem dL_law_15 : decode cL_law 15 = .ok (.astore_n 2, 1) := by decide +kernel
theorem dL_law_16 : decode cL_law 16 = .ok (.iconst 0, 1) := by decide +kernel
theorem dL_law_17 : decode cL_law 17 = .ok (.istore_n 3, 1) := by decide +kernel
theorem dL_law_18 : decode cL_law 18 = .ok (.iload_n 3, 1) := by decide +kernel
theorem dL_law_19 : decode cL_law 19 = .ok (.aload_n 0, 1) := by decide +kernel
theorem dL_law_20 : decode cL_law 20 = .ok (.arraylength, 1) := by decide +kernel
theorem dL_law_21 : decode cL_law 21 = .ok (.iconst 5, 1) := by decide +kernel
theorem dL_law_22 : decode cL_law 22 = .ok (.isub, 1) := by decide +kernel
theorem dL_law_23 : decode cL_law 23 = .ok (.if_icmp .gt 870, 3) := by decide +kernel
theorem dL_law_26 : decode cL_law 26 = .ok (.aload_n 0, 1) := by decide +kernel
theorem dL_law_27 : decode cL_law 27 = .ok (.iload_n 3, 1) := by decide +kernel
theorem dL_law_28 : decode cL_law 28 = .ok (.iaload, 1) := by decide +kernel
theorem dL_law_29 : decode cL_law 29 = .ok (.bipush 31, 2) := by decide +kernel
theorem dL_law_31 : decode cL_law 31 = .ok (.iand, 1) := by decide +kernel
theorem dL_law_32 : decode cL_law 32 = .ok (.tableswitch 855 0 26 #[124, 137, 150, 183, 226, 279, 302, 325, 338, 371, 414, 447, 470, 493, 526, 559, 592, 625, 658, 681, 704, 737, 770, 783, 806, 819, 842], 124) := by decide +kernel
theorem dL_law_156 : decode cL_law 156 = .ok (.aload_n 1, 1) := by decide +kernel
theorem dL_law_157 : decode cL_law 157 = .ok (.invokevirtual 13, 3) := by decide +kernel
theorem dL_law_160 : decode cL_law 160 = .ok (.aload_n 2, 1) := by decide +kernel
theorem dL_law_161 : decode cL_law 161 = .ok (.invokevirtual 17, 3) := by decide +kernel
theorem dL_law_164 : decode cL_law 164 = .ok (.if_icmp .eq 723, 3) := by decide +kernel
theorem dL_law_167 : decode cL_law 167 = .ok (.iconst 0, 1) := by decide +kernel
theorem dL_law_168 : decode cL_law 168 = .ok (.ireturn, 1) := by decide +kernel
theorem dL_law_169 : decode cL_law 169 = .ok (.aload_n 1, 1) := by decide +kernel
theorem dL_law_170 : decode cL_law 170 = .ok (.invokevirtual 18, 3) := by decide +kernel
theorem dL_law_173 : decode cL_law 173 = .ok (.aload_n 2, 1) := by decide +kernel
theorem dL_law_174 : decode cL_law 174 = .ok (.invokevirtual 21, 3) := by decide +kernel
theorem dL_law_177 : decode cL_law 177 = .ok (.if_icmp .eq 710, 3) := by decide +kernel
theorem dL_law_180 : decode cL_law 180 = .ok (.iconst 0, 1) := by decide +kernel
theorem dL_law_181 : decode cL_law 181 = .ok (.ireturn, 1) := by decide +kernel
theorem dL_law_182 : decode cL_law 182 = .ok (.aload_n 1, 1) := by decide +kernel
theorem dL_law_183 : decode cL_law 183 = .ok (.aload_n 0, 1) := by decide +kernel
theorem dL_law_184 : decode cL_law 184 = .ok (.iload_n 3, 1) := by decide +kernel
theorem dL_law_185 : decode cL_law 185 = .ok (.iconst 1, 1) := by decide +kernel
theorem dL_law_186 : decode cL_law 186 = .ok (.iadd, 1) := by decide +kernel
theorem dL_law_187 : decode cL_law 187 = .ok (.iaload, 1) := by decide +kernel
theorem dL_law_188 : decode cL_law 188 = .ok (.aload_n 0, 1) := by decide +kernel
theorem dL_law_189 : decode cL_law 189 = .ok (.iload_n 3, 1) := by decide +kernel
theorem dL_law_190 : decode cL_law 190 = .ok (.iconst 2, 1) := by decide +kernel
theorem dL_law_191 : decode cL_law 191 = .ok (.iadd, 1) := by decide +kernel
theorem dL_law_192 : decode cL_law 192 = .ok (.iaload, 1) := by decide +kernel
theorem dL_law_193 : decode cL_law 193 = .ok (.invokevirtual 22, 3) := by decide +kernel
theorem dL_law_196 : decode cL_law 196 = .ok (.aload_n 2, 1) := by decide +kernel
theorem dL_law_197 : decode cL_law 197 = .ok (.aload_n 0, 1) := by decide +kernel
theorem dL_law_198 : decode cL_law 198 = .ok (.iload_n 3, 1) := by decide +kernel
theorem dL_law_199 : decode cL_law 199 = .ok (.iconst 1, 1) := by decide +kernel
theorem dL_law_200 : decode cL_law 200 = .ok (.iadd, 1) := by decide +kernel
theorem dL_law_201 : decode cL_law 201 = .ok (.iaload, 1) := by decide +kernel
theorem dL_law_202 : decode cL_law 202 = .ok (.aload_n 0, 1) := by decide +kernel
theorem dL_law_203 : decode cL_law 203 = .ok (.iload_n 3, 1) := by decide +kernel
theorem dL_law_204 : decode cL_law 204 = .ok (.iconst 2, 1) := by decide +kernel
theorem dL_law_205 : decode cL_law 205 = .ok (.iadd, 1) := by decide +kernel
theorem dL_law_206 : decode cL_law 206 = .ok (.iaload, 1) := by decide +kernel
theorem dL_law_207 : decode cL_law 207 = .ok (.invokevirtual 26, 3) := by decide +kernel
theorem dL_law_210 : decode cL_law 210 = .ok (.if_icmp .eq 677, 3) := by decide +kernel
theorem dL_law_213 : decode cL_law 213 = .ok (.iconst 0, 1) := by decide +kernel
theorem dL_law_214 : decode cL_law 214 = .ok (.ireturn, 1) := by decide +kernel
theorem dL_law_215 : decode cL_law 215 = .ok (.aload_n 1, 1) := by decide +kernel
theorem dL_law_216 : decode cL_law 216 = .ok (.aload_n 0, 1) := by decide +kernel
theorem dL_law_217 : decode cL_law 217 = .ok (.iload_n 3, 1) := by decide +kernel
theorem dL_law_218 : decode cL_law 218 = .ok (.iconst 1, 1) := by decide +kernel
theorem dL_law_219 : decode cL_law 219 = .ok (.iadd, 1) := by decide +kernel
theorem dL_law_220 : decode cL_law 220 = .ok (.iaload, 1) := by decide +kernel
theorem dL_law_221 : decode cL_law 221 = .ok (.aload_n 0, 1) := by decide +kernel
theorem dL_law_222 : decode cL_law 222 = .ok (.iload_n 3, 1) := by decide +kernel
theorem dL_law_223 : decode cL_law 223 = .ok (.iconst 2, 1) := by decide +kernel
theorem dL_law_224 : decode cL_law 224 = .ok (.iadd, 1) := by decide +kernel
theorem dL_law_225 : decode cL_law 225 = .ok (.iaload, 1) := by decide +kernel
theorem dL_law_226 : decode cL_law 226 = .ok (.aload_n 0, 1) := by decide +kernel
theorem dL_law_227 : decode cL_law 227 = .ok (.iload_n 3, 1) := by decide +kernel
theorem dL_law_228 : decode cL_law 228 = .ok (.iconst 3, 1) := by decide +kernel
theorem dL_law_229 : decode cL_law 229 = .ok (.iadd, 1) := by decide +kernel
theorem dL_law_230 : decode cL_law 230 = .ok (.iaload, 1) := by decide +kernel
theorem dL_law_231 : decode cL_law 231 = .ok (.invokevirtual 27, 3) := by decide +kernel
theorem dL_law_234 : decode cL_law 234 = .ok (.aload_n 2, 1) := by decide +kernel
theorem dL_law_235 : decode cL_law 235 = .ok (.aload_n 0, 1) := by decide +kernel
theorem dL_law_236 : decode cL_law 236 = .ok (.iload_n 3, 1) := by decide +kernel
theorem dL_law_237 : decode cL_law 237 = .ok (.iconst 1, 1) := by decide +kernel
theorem dL_law_238 : decode cL_law 238 = .ok (.iadd, 1) := by decide +kernel
theorem dL_law_239 : decode cL_law 239 = .ok (.iaload, 1) := by decide +kernel
theorem dL_law_240 : decode cL_law 240 = .ok (.aload_n 0, 1) := by decide +kernel
theorem dL_law_241 : decode cL_law 241 = .ok (.iload_n 3, 1) := by decide +kernel
theorem dL_law_242 : decode cL_law 242 = .ok (.iconst 2, 1) := by decide +kernel
theorem dL_law_243 : decode cL_law 243 = .ok (.iadd, 1) := by decide +kernel
theorem dL_law_244 : decode cL_law 244 = .ok (.iaload, 1) := by decide +kernel
theorem dL_law_245 : decode cL_law 245 = .ok (.aload_n 0, 1) := by decide +kernel
theorem dL_law_246 : decode cL_law 246 = .ok (.iload_n 3, 1) := by decide +kernel
theorem dL_law_247 : decode cL_law 247 = .ok (.iconst 3, 1) := by decide +kernel
theorem dL_law_248 : decode cL_law 248 = .ok (.iadd, 1) := by decide +kernel
theorem dL_law_249 : decode cL_law 249 = .ok (.iaload, 1) := by decide +kernel
theorem dL_law_250 : decode cL_law 250 = .ok (.invokevirtual 31, 3) := by decide +kernel
theorem dL_law_253 : decode cL_law 253 = .ok (.if_icmp .eq 634, 3) := by decide +kernel
theorem dL_law_256 : decode cL_law 256 = .ok (.iconst 0, 1) := by decide +kernel
theorem dL_law_257 : decode cL_law 257 = .ok (.ireturn, 1) := by decide +kernel
theorem dL_law_258 : decode cL_law 258 = .ok (.aload_n 1, 1) := by decide +kernel
theorem dL_law_259 : decode cL_law 259 = .ok (.aload_n 0, 1) := by decide +kernel
theorem dL_law_260 : decode cL_law 260 = .ok (.iload_n 3, 1) := by decide +kernel
theorem dL_law_261 : decode cL_law 261 = .ok (.iconst 1, 1) := by decide +kernel
theorem dL_law_262 : decode cL_law 262 = .ok (.iadd, 1) := by decide +kernel
theorem dL_law_263 : decode cL_law 263 = .ok (.iaload, 1) := by decide +kernel
theorem dL_law_264 : decode cL_law 264 = .ok (.aload_n 0, 1) := by decide +kernel
theorem dL_law_265 : decode cL_law 265 = .ok (.iload_n 3, 1) := by decide +kernel
theorem dL_law_266 : decode cL_law 266 = .ok (.iconst 2, 1) := by decide +kernel
theorem dL_law_267 : decode cL_law 267 = .ok (.iadd, 1) := by decide +kernel
theorem dL_law_268 : decode cL_law 268 = .ok (.iaload, 1) := by decide +kernel
theorem dL_law_269 : decode cL_law 269 = .ok (.aload_n 0, 1) := by decide +kernel
theorem dL_law_270 : decode cL_law 270 = .ok (.iload_n 3, 1) := by decide +kernel
theorem dL_law_271 : decode cL_law 271 = .ok (.iconst 3, 1) := by decide +kernel
theorem dL_law_272 : decode cL_law 272 = .ok (.iadd, 1) := by decide +kernel
theorem dL_law_273 : decode cL_law 273 = .ok (.iaload, 1) := by decide +kernel
theorem dL_law_274 : decode cL_law 274 = .ok (.aload_n 0, 1) := by decide +kernel
theorem dL_law_275 : decode cL_law 275 = .ok (.iload_n 3, 1) := by decide +kernel
theorem dL_law_276 : decode cL_law 276 = .ok (.iconst 4, 1) := by decide +kernel
theorem dL_law_277 : decode cL_law 277 = .ok (.iadd, 1) := by decide +kernel
theorem dL_law_278 : decode cL_law 278 = .ok (.iaload, 1) := by decide +kernel
theorem dL_law_279 : decode cL_law 279 = .ok (.invokevirtual 32, 3) := by decide +kernel
theorem dL_law_282 : decode cL_law 282 = .ok (.aload_n 2, 1) := by decide +kernel
theorem dL_law_283 : decode cL_law 283 = .ok (.aload_n 0, 1) := by decide +kernel
theorem dL_law_284 : decode cL_law 284 = .ok (.iload_n 3, 1) := by decide +kernel
theorem dL_law_285 : decode cL_law 285 = .ok (.iconst 1, 1) := by decide +kernel
theorem dL_law_286 : decode cL_law 286 = .ok (.iadd, 1) := by decide +kernel
theorem dL_law_287 : decode cL_law 287 = .ok (.iaload, 1) := by decide +kernel
theorem dL_law_288 : decode cL_law 288 = .ok (.aload_n 0, 1) := by decide +kernel
theorem dL_law_289 : decode cL_law 289 = .ok (.iload_n 3, 1) := by decide +kernel
theorem dL_law_290 : decode cL_law 290 = .ok (.iconst 2, 1) := by decide +kernel
theorem dL_law_291 : decode cL_law 291 = .ok (.iadd, 1) := by decide +kernel
theorem dL_law_292 : decode cL_law 292 = .ok (.iaload, 1) := by decide +kernel
theorem dL_law_293 : decode cL_law 293 = .ok (.aload_n 0, 1) := by decide +kernel
theorem dL_law_294 : decode cL_law 294 = .ok (.iload_n 3, 1) := by decide +kernel
theorem dL_law_295 : decode cL_law 295 = .ok (.iconst 3, 1) := by decide +kernel
theorem dL_law_296 : decode cL_law 296 = .ok (.iadd, 1) := by decide +kernel
theorem dL_law_297 : decode cL_law 297 = .ok (.iaload, 1) := by decide +kernel
theorem dL_law_298 : decode cL_law 298 = .ok (.aload_n 0, 1) := by decide +kernel
theorem dL_law_299 : decode cL_law 299 = .ok (.iload_n 3, 1) := by decide +kernel
theorem dL_law_300 : decode cL_law 300 = .ok (.iconst 4, 1) := by decide +kernel
theorem dL_law_301 : decode cL_law 301 = .ok (.iadd, 1) := by decide +kernel
theorem dL_law_302 : decode cL_law 302 = .ok (.iaload, 1) := by decide +kernel
theorem dL_law_303 : decode cL_law 303 = .ok (.invokevirtual 36, 3) := by decide +kernel
theorem dL_law_306 : decode cL_law 306 = .ok (.if_icmp .eq 581, 3) := by decide +kernel
theorem dL_law_309 : decode cL_law 309 = .ok (.iconst 0, 1) := by decide +kernel
theorem dL_law_310 : decode cL_law 310 = .ok (.ireturn, 1) := by decide +kernel
theorem dL_law_311 : decode cL_law 311 = .ok (.aload_n 1, 1) := by decide +kernel
theorem dL_law_312 : decode cL_law 312 = .ok (.aload_n 0, 1) := by decide +kernel
theorem dL_law_313 : decode cL_law 313 = .ok (.iload_n 3, 1) := by decide +kernel
theorem dL_law_314 : decode cL_law 314 = .ok (.iconst 1, 1) := by decide +kernel
theorem dL_law_315 : decode cL_law 315 = .ok (.iadd, 1) := by decide +kernel
theorem dL_law_316 : decode cL_law 316 = .ok (.iaload, 1) := by decide +kernel
theorem dL_law_317 : decode cL_law 317 = .ok (.invokevirtual 37, 3) := by decide +kernel
theorem dL_law_320 : decode cL_law 320 = .ok (.aload_n 2, 1) := by decide +kernel
theorem dL_law_321 : decode cL_law 321 = .ok (.aload_n 0, 1) := by decide +kernel
theorem dL_law_322 : decode cL_law 322 = .ok (.iload_n 3, 1) := by decide +kernel
theorem dL_law_323 : decode cL_law 323 = .ok (.iconst 1, 1) := by decide +kernel
theorem dL_law_324 : decode cL_law 324 = .ok (.iadd, 1) := by decide +kernel
theorem dL_law_325 : decode cL_law 325 = .ok (.iaload, 1) := by decide +kernel
theorem dL_law_326 : decode cL_law 326 = .ok (.invokevirtual 41, 3) := by decide +kernel
theorem dL_law_329 : decode cL_law 329 = .ok (.if_icmp .eq 558, 3) := by decide +kernel
theorem dL_law_332 : decode cL_law 332 = .ok (.iconst 0, 1) := by decide +kernel
theorem dL_law_333 : decode cL_law 333 = .ok (.ireturn, 1) := by decide +kernel
theorem dL_law_334 : decode cL_law 334 = .ok (.aload_n 1, 1) := by decide +kernel
theorem dL_law_335 : decode cL_law 335 = .ok (.aload_n 0, 1) := by decide +kernel
theorem dL_law_336 : decode cL_law 336 = .ok (.iload_n 3, 1) := by decide +kernel
theorem dL_law_337 : decode cL_law 337 = .ok (.iconst 1, 1) := by decide +kernel
theorem dL_law_338 : decode cL_law 338 = .ok (.iadd, 1) := by decide +kernel
theorem dL_law_339 : decode cL_law 339 = .ok (.iaload, 1) := by decide +kernel
theorem dL_law_340 : decode cL_law 340 = .ok (.invokevirtual 42, 3) := by decide +kernel
theorem dL_law_343 : decode cL_law 343 = .ok (.aload_n 2, 1) := by decide +kernel
theorem dL_law_344 : decode cL_law 344 = .ok (.aload_n 0, 1) := by decide +kernel
theorem dL_law_345 : decode cL_law 345 = .ok (.iload_n 3, 1) := by decide +kernel
theorem dL_law_346 : decode cL_law 346 = .ok (.iconst 1, 1) := by decide +kernel
theorem dL_law_347 : decode cL_law 347 = .ok (.iadd, 1) := by decide +kernel
theorem dL_law_348 : decode cL_law 348 = .ok (.iaload, 1) := by decide +kernel
theorem dL_law_349 : decode cL_law 349 = .ok (.invokevirtual 45, 3) := by decide +kernel
theorem dL_law_352 : decode cL_law 352 = .ok (.if_icmp .eq 535, 3) := by decide +kernel
theorem dL_law_355 : decode cL_law 355 = .ok (.iconst 0, 1) := by decide +kernel
theorem dL_law_356 : decode cL_law 356 = .ok (.ireturn, 1) := by decide +kernel
theorem dL_law_357 : decode cL_law 357 = .ok (.aload_n 1, 1) := by decide +kernel
theorem dL_law_358 : decode cL_law 358 = .ok (.invokevirtual 46, 3) := by decide +kernel
theorem dL_law_361 : decode cL_law 361 = .ok (.aload_n 2, 1) := by decide +kernel
theorem dL_law_362 : decode cL_law 362 = .ok (.invokevirtual 49, 3) := by decide +kernel
theorem dL_law_365 : decode cL_law 365 = .ok (.if_icmp .eq 522, 3) := by decide +kernel
theorem dL_law_368 : decode cL_law 368 = .ok (.iconst 0, 1) := by decide +kernel
theorem dL_law_369 : decode cL_law 369 = .ok (.ireturn, 1) := by decide +kernel
theorem dL_law_370 : decode cL_law 370 = .ok (.aload_n 1, 1) := by decide +kernel
theorem dL_law_371 : decode cL_law 371 = .ok (.aload_n 0, 1) := by decide +kernel
theorem dL_law_372 : decode cL_law 372 = .ok (.iload_n 3, 1) := by decide +kernel
theorem dL_law_373 : decode cL_law 373 = .ok (.iconst 1, 1) := by decide +kernel
theorem dL_law_374 : decode cL_law 374 = .ok (.iadd, 1) := by decide +kernel
theorem dL_law_375 : decode cL_law 375 = .ok (.iaload, 1) := by decide +kernel
theorem dL_law_376 : decode cL_law 376 = .ok (.aload_n 0, 1) := by decide +kernel
theorem dL_law_377 : decode cL_law 377 = .ok (.iload_n 3, 1) := by decide +kernel
theorem dL_law_378 : decode cL_law 378 = .ok (.iconst 2, 1) := by decide +kernel
theorem dL_law_379 : decode cL_law 379 = .ok (.iadd, 1) := by decide +kernel
theorem dL_law_380 : decode cL_law 380 = .ok (.iaload, 1) := by decide +kernel
theorem dL_law_381 : decode cL_law 381 = .ok (.invokevirtual 50, 3) := by decide +kernel
theorem dL_law_384 : decode cL_law 384 = .ok (.aload_n 2, 1) := by decide +kernel
theorem dL_law_385 : decode cL_law 385 = .ok (.aload_n 0, 1) := by decide +kernel
theorem dL_law_386 : decode cL_law 386 = .ok (.iload_n 3, 1) := by decide +kernel
theorem dL_law_387 : decode cL_law 387 = .ok (.iconst 1, 1) := by decide +kernel
theorem dL_law_388 : decode cL_law 388 = .ok (.iadd, 1) := by decide +kernel
theorem dL_law_389 : decode cL_law 389 = .ok (.iaload, 1) := by decide +kernel
theorem dL_law_390 : decode cL_law 390 = .ok (.aload_n 0, 1) := by decide +kernel
theorem dL_law_391 : decode cL_law 391 = .ok (.iload_n 3, 1) := by decide +kernel
theorem dL_law_392 : decode cL_law 392 = .ok (.iconst 2, 1) := by decide +kernel
theorem dL_law_393 : decode cL_law 393 = .ok (.iadd, 1) := by decide +kernel
theorem dL_law_394 : decode cL_law 394 = .ok (.iaload, 1) := by decide +kernel
theorem dL_law_395 : decode cL_law 395 = .ok (.invokevirtual 53, 3) := by decide +kernel
theorem dL_law_398 : decode cL_law 398 = .ok (.if_icmp .eq 489, 3) := by decide +kernel
theorem dL_law_401 : decode cL_law 401 = .ok (.iconst 0, 1) := by decide +kernel
theorem dL_law_402 : decode cL_law 402 = .ok (.ireturn, 1) := by decide +kernel
theorem dL_law_403 : decode cL_law 403 = .ok (.aload_n 1, 1) := by decide +kernel
theorem dL_law_404 : decode cL_law 404 = .ok (.aload_n 0, 1) := by decide +kernel
theorem dL_law_405 : decode cL_law 405 = .ok (.iload_n 3, 1) := by decide +kernel
theorem dL_law_406 : decode cL_law 406 = .ok (.iconst 1, 1) := by decide +kernel
theorem dL_law_407 : decode cL_law 407 = .ok (.iadd, 1) := by decide +kernel
theorem dL_law_408 : decode cL_law 408 = .ok (.iaload, 1) := by decide +kernel
theorem dL_law_409 : decode cL_law 409 = .ok (.aload_n 0, 1) := by decide +kernel
theorem dL_law_410 : decode cL_law 410 = .ok (.iload_n 3, 1) := by decide +kernel
theorem dL_law_411 : decode cL_law 411 = .ok (.iconst 2, 1) := by decide +kernel
theorem dL_law_412 : decode cL_law 412 = .ok (.iadd, 1) := by decide +kernel
theorem dL_law_413 : decode cL_law 413 = .ok (.iaload, 1) := by decide +kernel
theorem dL_law_414 : decode cL_law 414 = .ok (.aload_n 0, 1) := by decide +kernel
theorem dL_law_415 : decode cL_law 415 = .ok (.iload_n 3, 1) := by decide +kernel
theorem dL_law_416 : decode cL_law 416 = .ok (.iconst 3, 1) := by decide +kernel
theorem dL_law_417 : decode cL_law 417 = .ok (.iadd, 1) := by decide +kernel
theorem dL_law_418 : decode cL_law 418 = .ok (.iaload, 1) := by decide +kernel
theorem dL_law_419 : decode cL_law 419 = .ok (.invokevirtual 54, 3) := by decide +kernel
theorem dL_law_422 : decode cL_law 422 = .ok (.aload_n 2, 1) := by decide +kernel
theorem dL_law_423 : decode cL_law 423 = .ok (.aload_n 0, 1) := by decide +kernel
theorem dL_law_424 : decode cL_law 424 = .ok (.iload_n 3, 1) := by decide +kernel
theorem dL_law_425 : decode cL_law 425 = .ok (.iconst 1, 1) := by decide +kernel
theorem dL_law_426 : decode cL_law 426 = .ok (.iadd, 1) := by decide +kernel
theorem dL_law_427 : decode cL_law 427 = .ok (.iaload, 1) := by decide +kernel
theorem dL_law_428 : decode cL_law 428 = .ok (.aload_n 0, 1) := by decide +kernel
theorem dL_law_429 : decode cL_law 429 = .ok (.iload_n 3, 1) := by decide +kernel
theorem dL_law_430 : decode cL_law 430 = .ok (.iconst 2, 1) := by decide +kernel
theorem dL_law_431 : decode cL_law 431 = .ok (.iadd, 1) := by decide +kernel
theorem dL_law_432 : decode cL_law 432 = .ok (.iaload, 1) := by decide +kernel
theorem dL_law_433 : decode cL_law 433 = .ok (.aload_n 0, 1) := by decide +kernel
theorem dL_law_434 : decode cL_law 434 = .ok (.iload_n 3, 1) := by decide +kernel
theorem dL_law_435 : decode cL_law 435 = .ok (.iconst 3, 1) := by decide +kernel
theorem dL_law_436 : decode cL_law 436 = .ok (.iadd, 1) := by decide +kernel
theorem dL_law_437 : decode cL_law 437 = .ok (.iaload, 1) := by decide +kernel
theorem dL_law_438 : decode cL_law 438 = .ok (.invokevirtual 57, 3) := by decide +kernel
theorem dL_law_441 : decode cL_law 441 = .ok (.if_icmp .eq 446, 3) := by decide +kernel
theorem dL_law_444 : decode cL_law 444 = .ok (.iconst 0, 1) := by decide +kernel
theorem dL_law_445 : decode cL_law 445 = .ok (.ireturn, 1) := by decide +kernel
theorem dL_law_446 : decode cL_law 446 = .ok (.aload_n 1, 1) := by decide +kernel
theorem dL_law_447 : decode cL_law 447 = .ok (.aload_n 0, 1) := by decide +kernel
theorem dL_law_448 : decode cL_law 448 = .ok (.iload_n 3, 1) := by decide +kernel
theorem dL_law_449 : decode cL_law 449 = .ok (.iconst 1, 1) := by decide +kernel
theorem dL_law_450 : decode cL_law 450 = .ok (.iadd, 1) := by decide +kernel
theorem dL_law_451 : decode cL_law 451 = .ok (.iaload, 1) := by decide +kernel
theorem dL_law_452 : decode cL_law 452 = .ok (.aload_n 0, 1) := by decide +kernel
theorem dL_law_453 : decode cL_law 453 = .ok (.iload_n 3, 1) := by decide +kernel
theorem dL_law_454 : decode cL_law 454 = .ok (.iconst 2, 1) := by decide +kernel
theorem dL_law_455 : decode cL_law 455 = .ok (.iadd, 1) := by decide +kernel
theorem dL_law_456 : decode cL_law 456 = .ok (.iaload, 1) := by decide +kernel
theorem dL_law_457 : decode cL_law 457 = .ok (.invokevirtual 58, 3) := by decide +kernel
theorem dL_law_460 : decode cL_law 460 = .ok (.aload_n 2, 1) := by decide +kernel
theorem dL_law_461 : decode cL_law 461 = .ok (.aload_n 0, 1) := by decide +kernel
theorem dL_law_462 : decode cL_law 462 = .ok (.iload_n 3, 1) := by decide +kernel
theorem dL_law_463 : decode cL_law 463 = .ok (.iconst 1, 1) := by decide +kernel
theorem dL_law_464 : decode cL_law 464 = .ok (.iadd, 1) := by decide +kernel
theorem dL_law_465 : decode cL_law 465 = .ok (.iaload, 1) := by decide +kernel
theorem dL_law_466 : decode cL_law 466 = .ok (.aload_n 0, 1) := by decide +kernel
theorem dL_law_467 : decode cL_law 467 = .ok (.iload_n 3, 1) := by decide +kernel
theorem dL_law_468 : decode cL_law 468 = .ok (.iconst 2, 1) := by decide +kernel
theorem dL_law_469 : decode cL_law 469 = .ok (.iadd, 1) := by decide +kernel
theorem dL_law_470 : decode cL_law 470 = .ok (.iaload, 1) := by decide +kernel
theorem dL_law_471 : decode cL_law 471 = .ok (.invokevirtual 61, 3) := by decide +kernel
theorem dL_law_474 : decode cL_law 474 = .ok (.if_icmp .eq 413, 3) := by decide +kernel
theorem dL_law_477 : decode cL_law 477 = .ok (.iconst 0, 1) := by decide +kernel
theorem dL_law_478 : decode cL_law 478 = .ok (.ireturn, 1) := by decide +kernel
theorem dL_law_479 : decode cL_law 479 = .ok (.aload_n 1, 1) := by decide +kernel
theorem dL_law_480 : decode cL_law 480 = .ok (.aload_n 0, 1) := by decide +kernel
theorem dL_law_481 : decode cL_law 481 = .ok (.iload_n 3, 1) := by decide +kernel
theorem dL_law_482 : decode cL_law 482 = .ok (.iconst 1, 1) := by decide +kernel
theorem dL_law_483 : decode cL_law 483 = .ok (.iadd, 1) := by decide +kernel
theorem dL_law_484 : decode cL_law 484 = .ok (.iaload, 1) := by decide +kernel
theorem dL_law_485 : decode cL_law 485 = .ok (.invokevirtual 62, 3) := by decide +kernel
theorem dL_law_488 : decode cL_law 488 = .ok (.aload_n 2, 1) := by decide +kernel
theorem dL_law_489 : decode cL_law 489 = .ok (.aload_n 0, 1) := by decide +kernel
theorem dL_law_490 : decode cL_law 490 = .ok (.iload_n 3, 1) := by decide +kernel
theorem dL_law_491 : decode cL_law 491 = .ok (.iconst 1, 1) := by decide +kernel
theorem dL_law_492 : decode cL_law 492 = .ok (.iadd, 1) := by decide +kernel
theorem dL_law_493 : decode cL_law 493 = .ok (.iaload, 1) := by decide +kernel
theorem dL_law_494 : decode cL_law 494 = .ok (.invokevirtual 65, 3) := by decide +kernel
theorem dL_law_497 : decode cL_law 497 = .ok (.if_icmp .eq 390, 3) := by decide +kernel
theorem dL_law_500 : decode cL_law 500 = .ok (.iconst 0, 1) := by decide +kernel
theorem dL_law_501 : decode cL_law 501 = .ok (.ireturn, 1) := by decide +kernel
theorem dL_law_502 : decode cL_law 502 = .ok (.aload_n 1, 1) := by decide +kernel
theorem dL_law_503 : decode cL_law 503 = .ok (.aload_n 0, 1) := by decide +kernel
theorem dL_law_504 : decode cL_law 504 = .ok (.iload_n 3, 1) := by decide +kernel
theorem dL_law_505 : decode cL_law 505 = .ok (.iconst 1, 1) := by decide +kernel
theorem dL_law_506 : decode cL_law 506 = .ok (.iadd, 1) := by decide +kernel
theorem dL_law_507 : decode cL_law 507 = .ok (.iaload, 1) := by decide +kernel
theorem dL_law_508 : decode cL_law 508 = .ok (.invokevirtual 66, 3) := by decide +kernel
theorem dL_law_511 : decode cL_law 511 = .ok (.aload_n 2, 1) := by decide +kernel
theorem dL_law_512 : decode cL_law 512 = .ok (.aload_n 0, 1) := by decide +kernel
theorem dL_law_513 : decode cL_law 513 = .ok (.iload_n 3, 1) := by decide +kernel
theorem dL_law_514 : decode cL_law 514 = .ok (.iconst 1, 1) := by decide +kernel
theorem dL_law_515 : decode cL_law 515 = .ok (.iadd, 1) := by decide +kernel
theorem dL_law_516 : decode cL_law 516 = .ok (.iaload, 1) := by decide +kernel
theorem dL_law_517 : decode cL_law 517 = .ok (.invokevirtual 69, 3) := by decide +kernel
theorem dL_law_520 : decode cL_law 520 = .ok (.if_icmp .eq 367, 3) := by decide +kernel
theorem dL_law_523 : decode cL_law 523 = .ok (.iconst 0, 1) := by decide +kernel
theorem dL_law_524 : decode cL_law 524 = .ok (.ireturn, 1) := by decide +kernel
theorem dL_law_525 : decode cL_law 525 = .ok (.aload_n 1, 1) := by decide +kernel
theorem dL_law_526 : decode cL_law 526 = .ok (.aload_n 0, 1) := by decide +kernel
theorem dL_law_527 : decode cL_law 527 = .ok (.iload_n 3, 1) := by decide +kernel
theorem dL_law_528 : decode cL_law 528 = .ok (.iconst 1, 1) := by decide +kernel
theorem dL_law_529 : decode cL_law 529 = .ok (.iadd, 1) := by decide +kernel
theorem dL_law_530 : decode cL_law 530 = .ok (.iaload, 1) := by decide +kernel
theorem dL_law_531 : decode cL_law 531 = .ok (.aload_n 0, 1) := by decide +kernel
theorem dL_law_532 : decode cL_law 532 = .ok (.iload_n 3, 1) := by decide +kernel
theorem dL_law_533 : decode cL_law 533 = .ok (.iconst 2, 1) := by decide +kernel
theorem dL_law_534 : decode cL_law 534 = .ok (.iadd, 1) := by decide +kernel
theorem dL_law_535 : decode cL_law 535 = .ok (.iaload, 1) := by decide +kernel
theorem dL_law_536 : decode cL_law 536 = .ok (.invokevirtual 70, 3) := by decide +kernel
theorem dL_law_539 : decode cL_law 539 = .ok (.aload_n 2, 1) := by decide +kernel
theorem dL_law_540 : decode cL_law 540 = .ok (.aload_n 0, 1) := by decide +kernel
theorem dL_law_541 : decode cL_law 541 = .ok (.iload_n 3, 1) := by decide +kernel
theorem dL_law_542 : decode cL_law 542 = .ok (.iconst 1, 1) := by decide +kernel
theorem dL_law_543 : decode cL_law 543 = .ok (.iadd, 1) := by decide +kernel
theorem dL_law_544 : decode cL_law 544 = .ok (.iaload, 1) := by decide +kernel
theorem dL_law_545 : decode cL_law 545 = .ok (.aload_n 0, 1) := by decide +kernel
theorem dL_law_546 : decode cL_law 546 = .ok (.iload_n 3, 1) := by decide +kernel
theorem dL_law_547 : decode cL_law 547 = .ok (.iconst 2, 1) := by decide +kernel
theorem dL_law_548 : decode cL_law 548 = .ok (.iadd, 1) := by decide +kernel
theorem dL_law_549 : decode cL_law 549 = .ok (.iaload, 1) := by decide +kernel
theorem dL_law_550 : decode cL_law 550 = .ok (.invokevirtual 73, 3) := by decide +kernel
theorem dL_law_553 : decode cL_law 553 = .ok (.if_icmp .eq 334, 3) := by decide +kernel
theorem dL_law_556 : decode cL_law 556 = .ok (.iconst 0, 1) := by decide +kernel
theorem dL_law_557 : decode cL_law 557 = .ok (.ireturn, 1) := by decide +kernel
theorem dL_law_558 : decode cL_law 558 = .ok (.aload_n 1, 1) := by decide +kernel
theorem dL_law_559 : decode cL_law 559 = .ok (.aload_n 0, 1) := by decide +kernel
theorem dL_law_560 : decode cL_law 560 = .ok (.iload_n 3, 1) := by decide +kernel
theorem dL_law_561 : decode cL_law 561 = .ok (.iconst 1, 1) := by decide +kernel
theorem dL_law_562 : decode cL_law 562 = .ok (.iadd, 1) := by decide +kernel
theorem dL_law_563 : decode cL_law 563 = .ok (.iaload, 1) := by decide +kernel
theorem dL_law_564 : decode cL_law 564 = .ok (.aload_n 0, 1) := by decide +kernel
theorem dL_law_565 : decode cL_law 565 = .ok (.iload_n 3, 1) := by decide +kernel
theorem dL_law_566 : decode cL_law 566 = .ok (.iconst 2, 1) := by decide +kernel
theorem dL_law_567 : decode cL_law 567 = .ok (.iadd, 1) := by decide +kernel
theorem dL_law_568 : decode cL_law 568 = .ok (.iaload, 1) := by decide +kernel
theorem dL_law_569 : decode cL_law 569 = .ok (.invokevirtual 74, 3) := by decide +kernel
theorem dL_law_572 : decode cL_law 572 = .ok (.aload_n 2, 1) := by decide +kernel
theorem dL_law_573 : decode cL_law 573 = .ok (.aload_n 0, 1) := by decide +kernel
theorem dL_law_574 : decode cL_law 574 = .ok (.iload_n 3, 1) := by decide +kernel
theorem dL_law_575 : decode cL_law 575 = .ok (.iconst 1, 1) := by decide +kernel
theorem dL_law_576 : decode cL_law 576 = .ok (.iadd, 1) := by decide +kernel
theorem dL_law_577 : decode cL_law 577 = .ok (.iaload, 1) := by decide +kernel
theorem dL_law_578 : decode cL_law 578 = .ok (.aload_n 0, 1) := by decide +kernel
theorem dL_law_579 : decode cL_law 579 = .ok (.iload_n 3, 1) := by decide +kernel
theorem dL_law_580 : decode cL_law 580 = .ok (.iconst 2, 1) := by decide +kernel
theorem dL_law_581 : decode cL_law 581 = .ok (.iadd, 1) := by decide +kernel
theorem dL_law_582 : decode cL_law 582 = .ok (.iaload, 1) := by decide +kernel
theorem dL_law_583 : decode cL_law 583 = .ok (.invokevirtual 77, 3) := by decide +kernel
theorem dL_law_586 : decode cL_law 586 = .ok (.if_icmp .eq 301, 3) := by decide +kernel
theorem dL_law_589 : decode cL_law 589 = .ok (.iconst 0, 1) := by decide +kernel
theorem dL_law_590 : decode cL_law 590 = .ok (.ireturn, 1) := by decide +kernel
theorem dL_law_591 : decode cL_law 591 = .ok (.aload_n 1, 1) := by decide +kernel
theorem dL_law_592 : decode cL_law 592 = .ok (.aload_n 0, 1) := by decide +kernel
theorem dL_law_593 : decode cL_law 593 = .ok (.iload_n 3, 1) := by decide +kernel
theorem dL_law_594 : decode cL_law 594 = .ok (.iconst 1, 1) := by decide +kernel
theorem dL_law_595 : decode cL_law 595 = .ok (.iadd, 1) := by decide +kernel
theorem dL_law_596 : decode cL_law 596 = .ok (.iaload, 1) := by decide +kernel
theorem dL_law_597 : decode cL_law 597 = .ok (.aload_n 0, 1) := by decide +kernel
theorem dL_law_598 : decode cL_law 598 = .ok (.iload_n 3, 1) := by decide +kernel
theorem dL_law_599 : decode cL_law 599 = .ok (.iconst 2, 1) := by decide +kernel
theorem dL_law_600 : decode cL_law 600 = .ok (.iadd, 1) := by decide +kernel
theorem dL_law_601 : decode cL_law 601 = .ok (.iaload, 1) := by decide +kernel
theorem dL_law_602 : decode cL_law 602 = .ok (.invokevirtual 78, 3) := by decide +kernel
theorem dL_law_605 : decode cL_law 605 = .ok (.aload_n 2, 1) := by decide +kernel
theorem dL_law_606 : decode cL_law 606 = .ok (.aload_n 0, 1) := by decide +kernel
theorem dL_law_607 : decode cL_law 607 = .ok (.iload_n 3, 1) := by decide +kernel
theorem dL_law_608 : decode cL_law 608 = .ok (.iconst 1, 1) := by decide +kernel
theorem dL_law_609 : decode cL_law 609 = .ok (.iadd, 1) := by decide +kernel
theorem dL_law_610 : decode cL_law 610 = .ok (.iaload, 1) := by decide +kernel
theorem dL_law_611 : decode cL_law 611 = .ok (.aload_n 0, 1) := by decide +kernel
theorem dL_law_612 : decode cL_law 612 = .ok (.iload_n 3, 1) := by decide +kernel
theorem dL_law_613 : decode cL_law 613 = .ok (.iconst 2, 1) := by decide +kernel
theorem dL_law_614 : decode cL_law 614 = .ok (.iadd, 1) := by decide +kernel
theorem dL_law_615 : decode cL_law 615 = .ok (.iaload, 1) := by decide +kernel
theorem dL_law_616 : decode cL_law 616 = .ok (.invokevirtual 81, 3) := by decide +kernel
theorem dL_law_619 : decode cL_law 619 = .ok (.if_icmp .eq 268, 3) := by decide +kernel
theorem dL_law_622 : decode cL_law 622 = .ok (.iconst 0, 1) := by decide +kernel
theorem dL_law_623 : decode cL_law 623 = .ok (.ireturn, 1) := by decide +kernel
theorem dL_law_624 : decode cL_law 624 = .ok (.aload_n 1, 1) := by decide +kernel
theorem dL_law_625 : decode cL_law 625 = .ok (.aload_n 0, 1) := by decide +kernel
theorem dL_law_626 : decode cL_law 626 = .ok (.iload_n 3, 1) := by decide +kernel
theorem dL_law_627 : decode cL_law 627 = .ok (.iconst 1, 1) := by decide +kernel
theorem dL_law_628 : decode cL_law 628 = .ok (.iadd, 1) := by decide +kernel
theorem dL_law_629 : decode cL_law 629 = .ok (.iaload, 1) := by decide +kernel
theorem dL_law_630 : decode cL_law 630 = .ok (.aload_n 0, 1) := by decide +kernel
theorem dL_law_631 : decode cL_law 631 = .ok (.iload_n 3, 1) := by decide +kernel
theorem dL_law_632 : decode cL_law 632 = .ok (.iconst 2, 1) := by decide +kernel
theorem dL_law_633 : decode cL_law 633 = .ok (.iadd, 1) := by decide +kernel
theorem dL_law_634 : decode cL_law 634 = .ok (.iaload, 1) := by decide +kernel
theorem dL_law_635 : decode cL_law 635 = .ok (.invokevirtual 82, 3) := by decide +kernel
theorem dL_law_638 : decode cL_law 638 = .ok (.aload_n 2, 1) := by decide +kernel
theorem dL_law_639 : decode cL_law 639 = .ok (.aload_n 0, 1) := by decide +kernel
theorem dL_law_640 : decode cL_law 640 = .ok (.iload_n 3, 1) := by decide +kernel
theorem dL_law_641 : decode cL_law 641 = .ok (.iconst 1, 1) := by decide +kernel
theorem dL_law_642 : decode cL_law 642 = .ok (.iadd, 1) := by decide +kernel
theorem dL_law_643 : decode cL_law 643 = .ok (.iaload, 1) := by decide +kernel
theorem dL_law_644 : decode cL_law 644 = .ok (.aload_n 0, 1) := by decide +kernel
theorem dL_law_645 : decode cL_law 645 = .ok (.iload_n 3, 1) := by decide +kernel
theorem dL_law_646 : decode cL_law 646 = .ok (.iconst 2, 1) := by decide +kernel
theorem dL_law_647 : decode cL_law 647 = .ok (.iadd, 1) := by decide +kernel
theorem dL_law_648 : decode cL_law 648 = .ok (.iaload, 1) := by decide +kernel
theorem dL_law_649 : decode cL_law 649 = .ok (.invokevirtual 85, 3) := by decide +kernel
theorem dL_law_652 : decode cL_law 652 = .ok (.if_icmp .eq 235, 3) := by decide +kernel
theorem dL_law_655 : decode cL_law 655 = .ok (.iconst 0, 1) := by decide +kernel
theorem dL_law_656 : decode cL_law 656 = .ok (.ireturn, 1) := by decide +kernel
theorem dL_law_657 : decode cL_law 657 = .ok (.aload_n 1, 1) := by decide +kernel
theorem dL_law_658 : decode cL_law 658 = .ok (.aload_n 0, 1) := by decide +kernel
theorem dL_law_659 : decode cL_law 659 = .ok (.iload_n 3, 1) := by decide +kernel
theorem dL_law_660 : decode cL_law 660 = .ok (.iconst 1, 1) := by decide +kernel
theorem dL_law_661 : decode cL_law 661 = .ok (.iadd, 1) := by decide +kernel
theorem dL_law_662 : decode cL_law 662 = .ok (.iaload, 1) := by decide +kernel
theorem dL_law_663 : decode cL_law 663 = .ok (.aload_n 0, 1) := by decide +kernel
theorem dL_law_664 : decode cL_law 664 = .ok (.iload_n 3, 1) := by decide +kernel
theorem dL_law_665 : decode cL_law 665 = .ok (.iconst 2, 1) := by decide +kernel
theorem dL_law_666 : decode cL_law 666 = .ok (.iadd, 1) := by decide +kernel
theorem dL_law_667 : decode cL_law 667 = .ok (.iaload, 1) := by decide +kernel
theorem dL_law_668 : decode cL_law 668 = .ok (.invokevirtual 86, 3) := by decide +kernel
theorem dL_law_671 : decode cL_law 671 = .ok (.aload_n 2, 1) := by decide +kernel
theorem dL_law_672 : decode cL_law 672 = .ok (.aload_n 0, 1) := by decide +kernel
theorem dL_law_673 : decode cL_law 673 = .ok (.iload_n 3, 1) := by decide +kernel
theorem dL_law_674 : decode cL_law 674 = .ok (.iconst 1, 1) := by decide +kernel
theorem dL_law_675 : decode cL_law 675 = .ok (.iadd, 1) := by decide +kernel
theorem dL_law_676 : decode cL_law 676 = .ok (.iaload, 1) := by decide +kernel
theorem dL_law_677 : decode cL_law 677 = .ok (.aload_n 0, 1) := by decide +kernel
theorem dL_law_678 : decode cL_law 678 = .ok (.iload_n 3, 1) := by decide +kernel
theorem dL_law_679 : decode cL_law 679 = .ok (.iconst 2, 1) := by decide +kernel
theorem dL_law_680 : decode cL_law 680 = .ok (.iadd, 1) := by decide +kernel
theorem dL_law_681 : decode cL_law 681 = .ok (.iaload, 1) := by decide +kernel
theorem dL_law_682 : decode cL_law 682 = .ok (.invokevirtual 89, 3) := by decide +kernel
theorem dL_law_685 : decode cL_law 685 = .ok (.if_icmp .eq 202, 3) := by decide +kernel
theorem dL_law_688 : decode cL_law 688 = .ok (.iconst 0, 1) := by decide +kernel
theorem dL_law_689 : decode cL_law 689 = .ok (.ireturn, 1) := by decide +kernel
theorem dL_law_690 : decode cL_law 690 = .ok (.aload_n 1, 1) := by decide +kernel
theorem dL_law_691 : decode cL_law 691 = .ok (.aload_n 0, 1) := by decide +kernel
theorem dL_law_692 : decode cL_law 692 = .ok (.iload_n 3, 1) := by decide +kernel
theorem dL_law_693 : decode cL_law 693 = .ok (.iconst 1, 1) := by decide +kernel
theorem dL_law_694 : decode cL_law 694 = .ok (.iadd, 1) := by decide +kernel
theorem dL_law_695 : decode cL_law 695 = .ok (.iaload, 1) := by decide +kernel
theorem dL_law_696 : decode cL_law 696 = .ok (.invokevirtual 90, 3) := by decide +kernel
theorem dL_law_699 : decode cL_law 699 = .ok (.aload_n 2, 1) := by decide +kernel
theorem dL_law_700 : decode cL_law 700 = .ok (.aload_n 0, 1) := by decide +kernel
theorem dL_law_701 : decode cL_law 701 = .ok (.iload_n 3, 1) := by decide +kernel
theorem dL_law_702 : decode cL_law 702 = .ok (.iconst 1, 1) := by decide +kernel
theorem dL_law_703 : decode cL_law 703 = .ok (.iadd, 1) := by decide +kernel
theorem dL_law_704 : decode cL_law 704 = .ok (.iaload, 1) := by decide +kernel
theorem dL_law_705 : decode cL_law 705 = .ok (.invokevirtual 93, 3) := by decide +kernel
theorem dL_law_708 : decode cL_law 708 = .ok (.if_icmp .eq 179, 3) := by decide +kernel
theorem dL_law_711 : decode cL_law 711 = .ok (.iconst 0, 1) := by decide +kernel
theorem dL_law_712 : decode cL_law 712 = .ok (.ireturn, 1) := by decide +kernel
theorem dL_law_713 : decode cL_law 713 = .ok (.aload_n 1, 1) := by decide +kernel
theorem dL_law_714 : decode cL_law 714 = .ok (.aload_n 0, 1) := by decide +kernel
theorem dL_law_715 : decode cL_law 715 = .ok (.iload_n 3, 1) := by decide +kernel
theorem dL_law_716 : decode cL_law 716 = .ok (.iconst 1, 1) := by decide +kernel
theorem dL_law_717 : decode cL_law 717 = .ok (.iadd, 1) := by decide +kernel
theorem dL_law_718 : decode cL_law 718 = .ok (.iaload, 1) := by decide +kernel
theorem dL_law_719 : decode cL_law 719 = .ok (.invokevirtual 94, 3) := by decide +kernel
theorem dL_law_722 : decode cL_law 722 = .ok (.aload_n 2, 1) := by decide +kernel
theorem dL_law_723 : decode cL_law 723 = .ok (.aload_n 0, 1) := by decide +kernel
theorem dL_law_724 : decode cL_law 724 = .ok (.iload_n 3, 1) := by decide +kernel
theorem dL_law_725 : decode cL_law 725 = .ok (.iconst 1, 1) := by decide +kernel
theorem dL_law_726 : decode cL_law 726 = .ok (.iadd, 1) := by decide +kernel
theorem dL_law_727 : decode cL_law 727 = .ok (.iaload, 1) := by decide +kernel
theorem dL_law_728 : decode cL_law 728 = .ok (.invokevirtual 97, 3) := by decide +kernel
theorem dL_law_731 : decode cL_law 731 = .ok (.if_icmp .eq 156, 3) := by decide +kernel
theorem dL_law_734 : decode cL_law 734 = .ok (.iconst 0, 1) := by decide +kernel
theorem dL_law_735 : decode cL_law 735 = .ok (.ireturn, 1) := by decide +kernel
theorem dL_law_736 : decode cL_law 736 = .ok (.aload_n 1, 1) := by decide +kernel
theorem dL_law_737 : decode cL_law 737 = .ok (.aload_n 0, 1) := by decide +kernel
theorem dL_law_738 : decode cL_law 738 = .ok (.iload_n 3, 1) := by decide +kernel
theorem dL_law_739 : decode cL_law 739 = .ok (.iconst 1, 1) := by decide +kernel
theorem dL_law_740 : decode cL_law 740 = .ok (.iadd, 1) := by decide +kernel
theorem dL_law_741 : decode cL_law 741 = .ok (.iaload, 1) := by decide +kernel
theorem dL_law_742 : decode cL_law 742 = .ok (.aload_n 0, 1) := by decide +kernel
theorem dL_law_743 : decode cL_law 743 = .ok (.iload_n 3, 1) := by decide +kernel
theorem dL_law_744 : decode cL_law 744 = .ok (.iconst 2, 1) := by decide +kernel
theorem dL_law_745 : decode cL_law 745 = .ok (.iadd, 1) := by decide +kernel
theorem dL_law_746 : decode cL_law 746 = .ok (.iaload, 1) := by decide +kernel
theorem dL_law_747 : decode cL_law 747 = .ok (.invokevirtual 98, 3) := by decide +kernel
theorem dL_law_750 : decode cL_law 750 = .ok (.aload_n 2, 1) := by decide +kernel
theorem dL_law_751 : decode cL_law 751 = .ok (.aload_n 0, 1) := by decide +kernel
theorem dL_law_752 : decode cL_law 752 = .ok (.iload_n 3, 1) := by decide +kernel
theorem dL_law_753 : decode cL_law 753 = .ok (.iconst 1, 1) := by decide +kernel
theorem dL_law_754 : decode cL_law 754 = .ok (.iadd, 1) := by decide +kernel
theorem dL_law_755 : decode cL_law 755 = .ok (.iaload, 1) := by decide +kernel
theorem dL_law_756 : decode cL_law 756 = .ok (.aload_n 0, 1) := by decide +kernel
theorem dL_law_757 : decode cL_law 757 = .ok (.iload_n 3, 1) := by decide +kernel
theorem dL_law_758 : decode cL_law 758 = .ok (.iconst 2, 1) := by decide +kernel
theorem dL_law_759 : decode cL_law 759 = .ok (.iadd, 1) := by decide +kernel
theorem dL_law_760 : decode cL_law 760 = .ok (.iaload, 1) := by decide +kernel
theorem dL_law_761 : decode cL_law 761 = .ok (.invokevirtual 101, 3) := by decide +kernel
theorem dL_law_764 : decode cL_law 764 = .ok (.if_icmp .eq 123, 3) := by decide +kernel
theorem dL_law_767 : decode cL_law 767 = .ok (.iconst 0, 1) := by decide +kernel
theorem dL_law_768 : decode cL_law 768 = .ok (.ireturn, 1) := by decide +kernel
theorem dL_law_769 : decode cL_law 769 = .ok (.aload_n 1, 1) := by decide +kernel
theorem dL_law_770 : decode cL_law 770 = .ok (.aload_n 0, 1) := by decide +kernel
theorem dL_law_771 : decode cL_law 771 = .ok (.iload_n 3, 1) := by decide +kernel
theorem dL_law_772 : decode cL_law 772 = .ok (.iconst 1, 1) := by decide +kernel
theorem dL_law_773 : decode cL_law 773 = .ok (.iadd, 1) := by decide +kernel
theorem dL_law_774 : decode cL_law 774 = .ok (.iaload, 1) := by decide +kernel
theorem dL_law_775 : decode cL_law 775 = .ok (.aload_n 0, 1) := by decide +kernel
theorem dL_law_776 : decode cL_law 776 = .ok (.iload_n 3, 1) := by decide +kernel
theorem dL_law_777 : decode cL_law 777 = .ok (.iconst 2, 1) := by decide +kernel
theorem dL_law_778 : decode cL_law 778 = .ok (.iadd, 1) := by decide +kernel
theorem dL_law_779 : decode cL_law 779 = .ok (.iaload, 1) := by decide +kernel
theorem dL_law_780 : decode cL_law 780 = .ok (.invokevirtual 102, 3) := by decide +kernel
theorem dL_law_783 : decode cL_law 783 = .ok (.aload_n 2, 1) := by decide +kernel
theorem dL_law_784 : decode cL_law 784 = .ok (.aload_n 0, 1) := by decide +kernel
theorem dL_law_785 : decode cL_law 785 = .ok (.iload_n 3, 1) := by decide +kernel
theorem dL_law_786 : decode cL_law 786 = .ok (.iconst 1, 1) := by decide +kernel
theorem dL_law_787 : decode cL_law 787 = .ok (.iadd, 1) := by decide +kernel
theorem dL_law_788 : decode cL_law 788 = .ok (.iaload, 1) := by decide +kernel
theorem dL_law_789 : decode cL_law 789 = .ok (.aload_n 0, 1) := by decide +kernel
theorem dL_law_790 : decode cL_law 790 = .ok (.iload_n 3, 1) := by decide +kernel
theorem dL_law_791 : decode cL_law 791 = .ok (.iconst 2, 1) := by decide +kernel
theorem dL_law_792 : decode cL_law 792 = .ok (.iadd, 1) := by decide +kernel
theorem dL_law_793 : decode cL_law 793 = .ok (.iaload, 1) := by decide +kernel
theorem dL_law_794 : decode cL_law 794 = .ok (.invokevirtual 105, 3) := by decide +kernel
theorem dL_law_797 : decode cL_law 797 = .ok (.if_icmp .eq 90, 3) := by decide +kernel
theorem dL_law_800 : decode cL_law 800 = .ok (.iconst 0, 1) := by decide +kernel
theorem dL_law_801 : decode cL_law 801 = .ok (.ireturn, 1) := by decide +kernel
theorem dL_law_802 : decode cL_law 802 = .ok (.aload_n 1, 1) := by decide +kernel
theorem dL_law_803 : decode cL_law 803 = .ok (.invokevirtual 106, 3) := by decide +kernel
theorem dL_law_806 : decode cL_law 806 = .ok (.aload_n 2, 1) := by decide +kernel
theorem dL_law_807 : decode cL_law 807 = .ok (.invokevirtual 109, 3) := by decide +kernel
theorem dL_law_810 : decode cL_law 810 = .ok (.if_icmp .eq 77, 3) := by decide +kernel
theorem dL_law_813 : decode cL_law 813 = .ok (.iconst 0, 1) := by decide +kernel
theorem dL_law_814 : decode cL_law 814 = .ok (.ireturn, 1) := by decide +kernel
theorem dL_law_815 : decode cL_law 815 = .ok (.aload_n 1, 1) := by decide +kernel
theorem dL_law_816 : decode cL_law 816 = .ok (.aload_n 0, 1) := by decide +kernel
theorem dL_law_817 : decode cL_law 817 = .ok (.iload_n 3, 1) := by decide +kernel
theorem dL_law_818 : decode cL_law 818 = .ok (.iconst 1, 1) := by decide +kernel
theorem dL_law_819 : decode cL_law 819 = .ok (.iadd, 1) := by decide +kernel
theorem dL_law_820 : decode cL_law 820 = .ok (.iaload, 1) := by decide +kernel
theorem dL_law_821 : decode cL_law 821 = .ok (.invokevirtual 110, 3) := by decide +kernel
theorem dL_law_824 : decode cL_law 824 = .ok (.aload_n 2, 1) := by decide +kernel
theorem dL_law_825 : decode cL_law 825 = .ok (.aload_n 0, 1) := by decide +kernel
theorem dL_law_826 : decode cL_law 826 = .ok (.iload_n 3, 1) := by decide +kernel
theorem dL_law_827 : decode cL_law 827 = .ok (.iconst 1, 1) := by decide +kernel
theorem dL_law_828 : decode cL_law 828 = .ok (.iadd, 1) := by decide +kernel
theorem dL_law_829 : decode cL_law 829 = .ok (.iaload, 1) := by decide +kernel
theorem dL_law_830 : decode cL_law 830 = .ok (.invokevirtual 113, 3) := by decide +kernel
theorem dL_law_833 : decode cL_law 833 = .ok (.if_icmp .eq 54, 3) := by decide +kernel
theorem dL_law_836 : decode cL_law 836 = .ok (.iconst 0, 1) := by decide +kernel
theorem dL_law_837 : decode cL_law 837 = .ok (.ireturn, 1) := by decide +kernel
theorem dL_law_838 : decode cL_law 838 = .ok (.aload_n 1, 1) := by decide +kernel
theorem dL_law_839 : decode cL_law 839 = .ok (.invokevirtual 114, 3) := by decide +kernel
theorem dL_law_842 : decode cL_law 842 = .ok (.aload_n 2, 1) := by decide +kernel
theorem dL_law_843 : decode cL_law 843 = .ok (.invokevirtual 117, 3) := by decide +kernel
theorem dL_law_846 : decode cL_law 846 = .ok (.if_icmp .eq 41, 3) := by decide +kernel
theorem dL_law_849 : decode cL_law 849 = .ok (.iconst 0, 1) := by decide +kernel
theorem dL_law_850 : decode cL_law 850 = .ok (.ireturn, 1) := by decide +kernel
theorem dL_law_851 : decode cL_law 851 = .ok (.aload_n 1, 1) := by decide +kernel
theorem dL_law_852 : decode cL_law 852 = .ok (.aload_n 0, 1) := by decide +kernel
theorem dL_law_853 : decode cL_law 853 = .ok (.iload_n 3, 1) := by decide +kernel
theorem dL_law_854 : decode cL_law 854 = .ok (.iconst 1, 1) := by decide +kernel
theorem dL_law_855 : decode cL_law 855 = .ok (.iadd, 1) := by decide +kernel
theorem dL_law_856 : decode cL_law 856 = .ok (.iaload, 1) := by decide +kernel
theorem dL_law_857 : decode cL_law 857 = .ok (.invokevirtual 118, 3) := by decide +kernel
theorem dL_law_860 : decode cL_law 860 = .ok (.aload_n 2, 1) := by decide +kernel
theorem dL_law_861 : decode cL_law 861 = .ok (.aload_n 0, 1) := by decide +kernel
theorem dL_law_862 : decode cL_law 862 = .ok (.iload_n 3, 1) := by decide +kernel
theorem dL_law_863 : decode cL_law 863 = .ok (.iconst 1, 1) := by decide +kernel
theorem dL_law_864 : decode cL_law 864 = .ok (.iadd, 1) := by decide +kernel
theorem dL_law_865 : decode cL_law 865 = .ok (.iaload, 1) := by decide +kernel
theorem dL_law_866 : decode cL_law 866 = .ok (.invokevirtual 121, 3) := by decide +kernel
theorem dL_law_869 : decode cL_law 869 = .ok (.if_icmp .eq 18, 3) := by decide +kernel
theorem dL_law_872 : decode cL_law 872 = .ok (.iconst 0, 1) := by decide +kernel
theorem dL_law_873 : decode cL_law 873 = .ok (.ireturn, 1) := by decide +kernel
theorem dL_law_874 : decode cL_law 874 = .ok (.aload_n 1, 1) := by decide +kernel
theorem dL_law_875 : decode cL_law 875 = .ok (.invokevirtual 122, 3) := by decide +kernel
theorem dL_law_878 : decode cL_law 878 = .ok (.aload_n 2, 1) := by decide +kernel
theorem dL_law_879 : decode cL_law 879 = .ok (.invokevirtual 125, 3) := by decide +kernel
theorem dL_law_882 : decode cL_law 882 = .ok (.if_icmp .eq 5, 3) := by decide +kernel
theorem dL_law_885 : decode cL_law 885 = .ok (.iconst 0, 1) := by decide +kernel
theorem dL_law_886 : decode cL_law 886 = .ok (.ireturn, 1) := by decide +kernel
theorem dL_law_887 : decode cL_law 887 = .ok (.iinc 3 5, 3) := by decide +kernel
theorem dL_law_890 : decode cL_law 890 = .ok (.goto (-872), 3) := by decide +kernel
theorem dL_law_893 : decode cL_law 893 = .ok (.iconst 1, 1) := by decide +kernel
theorem dL_law_894 : decode cL_law 894 = .ok (.ireturn, 1) := by decide +kernel
end
section
/-- all words of the tables that stay -/
abbrev gx_TB : List Cond := lw_tbl.filter goodWord
theorem gx_TBgood : GoodIn gx_TB gx_TB := fun w h => ⟨h, good_of_word (List.mem_filter.mp h).2⟩
theorem gx_tb {w : Cond} (i : Nat) (h : lw_tbl[i]? = some w) (hg : goodWord w = true) : w ∈ gx_TB := List.mem_filter.mpr ⟨List.mem_of_getElem? h, hg⟩
theorem gx_tbl {w : Cond} (h : w ∈ gx_TB) : w ∈ lw_tbl := (List.mem_filter.mp h).1
theorem tb_0 : Cond.selects RX0 yX0_bookGift yX0_bookGift ∈ gx_TB := gx_tb 0 (by decide +kernel) (by decide +kernel)
theorem tb_1 : Cond.selects RX0 yX0_isRunning yX0_isRunning ∈ gx_TB := gx_tb 1 (by decide +kernel) (by decide +kernel)
theorem tb_2 : Cond.selects RX0 yX0_haltPledge yX0_haltPledge ∈ gx_TB := gx_tb 2 (by decide +kernel) (by decide +kernel)
theorem tb_3 : Cond.selects RX0 yX0_isOf yX0_isOf ∈ gx_TB := gx_tb 3 (by decide +kernel) (by decide +kernel)
theorem tb_4 : Cond.selects RX0 yX0_canBeClaimed yX0_canBeClaimed ∈ gx_TB := gx_tb 4 (by decide +kernel) (by decide +kernel)
theorem tb_5 : Cond.selects RX0 yX0_isClaimed yX0_isClaimed ∈ gx_TB := gx_tb 5 (by decide +kernel) (by decide +kernel)
theorem tb_6 : Cond.selects RX0 yX0_isRefunded yX0_isRefunded ∈ gx_TB := gx_tb 6 (by decide +kernel) (by decide +kernel)
theorem tb_7 : Cond.selects RX0 yX0_claimedInYear yX0_claimedInYear ∈ gx_TB := gx_tb 7 (by decide +kernel) (by decide +kernel)
theorem tb_8 : Cond.selects RX0 yX0_homeOfGift yX0_homeOfGift ∈ gx_TB := gx_tb 8 (by decide +kernel) (by decide +kernel)
theorem tb_9 : Cond.selects RX0 yX0_taxOf yX0_taxOf ∈ gx_TB := gx_tb 9 (by decide +kernel) (by decide +kernel)
theorem tb_10 : Cond.selects RX0 yX0_areTwoPurposes yX0_areTwoPurposes ∈ gx_TB := gx_tb 10 (by decide +kernel) (by decide +kernel)
theorem tb_11 : Cond.selects RX0 yX0_areMergeable yX0_areMergeable ∈ gx_TB := gx_tb 11 (by decide +kernel) (by decide +kernel)
theorem tb_12 : Cond.selects RX0 yX0_weightOfDonor yX0_weightOfDonor ∈ gx_TB := gx_tb 12 (by decide +kernel) (by decide +kernel)
theorem tb_13 : Cond.selects RX0 yX0_weightOf yX0_weightOf ∈ gx_TB := gx_tb 13 (by decide +kernel) (by decide +kernel)
theorem tb_14 : Cond.selects RX0 yX0_weightOfAll yX0_weightOfAll ∈ gx_TB := gx_tb 14 (by decide +kernel) (by decide +kernel)
theorem tb_15 : Cond.selects RX0 yX0_weightOfConsents yX0_weightOfConsents ∈ gx_TB := gx_tb 15 (by decide +kernel) (by decide +kernel)
theorem tb_16 : Cond.selects RX0 yX0_agreesTo yX0_agreesTo ∈ gx_TB := gx_tb 16 (by decide +kernel) (by decide +kernel)
theorem tb_17 : Cond.selects RX0 yX0_handOnPledges yX0_handOnPledges ∈ gx_TB := gx_tb 17 (by decide +kernel) (by decide +kernel)
theorem tb_18 : Cond.selects RX0 yX0_forgetConsents yX0_forgetConsents ∈ gx_TB := gx_tb 18 (by decide +kernel) (by decide +kernel)
theorem tb_19 : Cond.selects RX0 yX0_closePurpose yX0_closePurpose ∈ gx_TB := gx_tb 19 (by decide +kernel) (by decide +kernel)
theorem tb_20 : Cond.selects RX0 yX0_moveFund yX0_moveFund ∈ gx_TB := gx_tb 20 (by decide +kernel) (by decide +kernel)
theorem tb_21 : Cond.selects RX0 yX0_runPledge yX0_runPledge ∈ gx_TB := gx_tb 21 (by decide +kernel) (by decide +kernel)
theorem tb_22 : Cond.selects RX0 yX0_amountsOf yX0_amountsOf ∈ gx_TB := gx_tb 22 (by decide +kernel) (by decide +kernel)
theorem tb_23 : Cond.selects RX0 yX0_runningPledgesOf yX0_runningPledgesOf ∈ gx_TB := gx_tb 23 (by decide +kernel) (by decide +kernel)
theorem tb_24 : Cond.selects RX0 yX0_tellConsent yX0_tellConsent ∈ gx_TB := gx_tb 24 (by decide +kernel) (by decide +kernel)
theorem tb_25 : Cond.selects RX0 yX0_closedPurposes yX0_closedPurposes ∈ gx_TB := gx_tb 25 (by decide +kernel) (by decide +kernel)
theorem tb_26 : Cond.selects RX2 yX2_readCommand yX2_readCommand ∈ gx_TB := gx_tb 26 (by decide +kernel) (by decide +kernel)
theorem tb_27 : Cond.selects RX2 yX2_readKind yX2_readKind ∈ gx_TB := gx_tb 27 (by decide +kernel) (by decide +kernel)
theorem tb_28 : Cond.selects RX2 yX2_standsNext yX2_standsNext ∈ gx_TB := gx_tb 28 (by decide +kernel) (by decide +kernel)
theorem tb_29 : Cond.selects RX2 yX2_signAt yX2_signAt ∈ gx_TB := gx_tb 29 (by decide +kernel) (by decide +kernel)
theorem tb_30 : Cond.selects RX2 yX2_readSign yX2_readSign ∈ gx_TB := gx_tb 30 (by decide +kernel) (by decide +kernel)
theorem tb_31 : Cond.selects RX2 yX2_readNumber yX2_readNumber ∈ gx_TB := gx_tb 31 (by decide +kernel) (by decide +kernel)
theorem tb_32 : Cond.selects RX2 yX2_fail yX2_fail ∈ gx_TB := gx_tb 32 (by decide +kernel) (by decide +kernel)
theorem tb_33 : Cond.selects RX2 yX2_perform yX2_perform ∈ gx_TB := gx_tb 33 (by decide +kernel) (by decide +kernel)
theorem tb_34 : Cond.selects RX5 yX5_putsPurpose yX5_putsPurpose ∈ gx_TB := gx_tb 34 (by decide +kernel) (by decide +kernel)
theorem tb_35 : Cond.selects RX5 yX5_changes yX5_changes ∈ gx_TB := gx_tb 35 (by decide +kernel) (by decide +kernel)
theorem tb_36 : Cond.selects RX5 yX5_putsDonor yX5_putsDonor ∈ gx_TB := gx_tb 36 (by decide +kernel) (by decide +kernel)
theorem tb_37 : Cond.selects RX5 yX5_isDonor yX5_isDonor ∈ gx_TB := gx_tb 37 (by decide +kernel) (by decide +kernel)
theorem tb_38 : Cond.selects RX5 yX5_ofDonor yX5_ofDonor ∈ gx_TB := gx_tb 38 (by decide +kernel) (by decide +kernel)
theorem tb_39 : Cond.selects RX5 yX5_isPurpose yX5_isPurpose ∈ gx_TB := gx_tb 39 (by decide +kernel) (by decide +kernel)
theorem tb_40 : Cond.selects RX5 yX5_isClosed yX5_isClosed ∈ gx_TB := gx_tb 40 (by decide +kernel) (by decide +kernel)
theorem tb_41 : Cond.selects RX5 yX5_ofPurpose yX5_ofPurpose ∈ gx_TB := gx_tb 41 (by decide +kernel) (by decide +kernel)
theorem tb_42 : Cond.selects RX5 yX5_gives yX5_gives ∈ gx_TB := gx_tb 42 (by decide +kernel) (by decide +kernel)
theorem tb_43 : Cond.selects RX5 yX5_adds yX5_adds ∈ gx_TB := gx_tb 43 (by decide +kernel) (by decide +kernel)
theorem tb_44 : Cond.selects RX5 yX5_putsPledge yX5_putsPledge ∈ gx_TB := gx_tb 44 (by decide +kernel) (by decide +kernel)
theorem tb_45 : Cond.selects RX5 yX5_isPledge yX5_isPledge ∈ gx_TB := gx_tb 45 (by decide +kernel) (by decide +kernel)
theorem tb_46 : Cond.selects RX5 yX5_ofPledge yX5_ofPledge ∈ gx_TB := gx_tb 46 (by decide +kernel) (by decide +kernel)
theorem tb_47 : Cond.selects RX5 yX5_ends yX5_ends ∈ gx_TB := gx_tb 47 (by decide +kernel) (by decide +kernel)
theorem tb_48 : Cond.selects RX5 yX5_claims yX5_claims ∈ gx_TB := gx_tb 48 (by decide +kernel) (by decide +kernel)
theorem tb_49 : Cond.selects RX5 yX5_ofGift yX5_ofGift ∈ gx_TB := gx_tb 49 (by decide +kernel) (by decide +kernel)
theorem tb_50 : Cond.selects RX5 yX5_canClaim yX5_canClaim ∈ gx_TB := gx_tb 50 (by decide +kernel) (by decide +kernel)
theorem tb_51 : Cond.selects RX5 yX5_home yX5_home ∈ gx_TB := gx_tb 51 (by decide +kernel) (by decide +kernel)
theorem tb_52 : Cond.selects RX5 yX5_areTwo yX5_areTwo ∈ gx_TB := gx_tb 52 (by decide +kernel) (by decide +kernel)
theorem tb_53 : Cond.selects RX5 yX5_weight yX5_weight ∈ gx_TB := gx_tb 53 (by decide +kernel) (by decide +kernel)
theorem tb_54 : Cond.selects RX5 yX5_weights yX5_weights ∈ gx_TB := gx_tb 54 (by decide +kernel) (by decide +kernel)
theorem tb_55 : Cond.selects RX5 yX5_goes yX5_goes ∈ gx_TB := gx_tb 55 (by decide +kernel) (by decide +kernel)
theorem tb_56 : Cond.selects RX5 yX5_month yX5_month ∈ gx_TB := gx_tb 56 (by decide +kernel) (by decide +kernel)
theorem tb_57 : Cond.selects RX5 yX5_given yX5_given ∈ gx_TB := gx_tb 57 (by decide +kernel) (by decide +kernel)
theorem tb_58 : Cond.selects RX5 yX5_running yX5_running ∈ gx_TB := gx_tb 58 (by decide +kernel) (by decide +kernel)
theorem tb_59 : Cond.selects RX5 yX5_all yX5_all ∈ gx_TB := gx_tb 59 (by decide +kernel) (by decide +kernel)
theorem tb_60 : Cond.selects RX5 yX5_plays yX5_plays ∈ gx_TB := gx_tb 60 (by decide +kernel) (by decide +kernel)
theorem tb_61 : Cond.selects RX5 yX5_reads yX5_reads ∈ gx_TB := gx_tb 61 (by decide +kernel) (by decide +kernel)
theorem tb_62 : Cond.selects RX5 yX5_word yX5_word ∈ gx_TB := gx_tb 62 (by decide +kernel) (by decide +kernel)
theorem tb_63 : Cond.selects RX5 yX5_isAt yX5_isAt ∈ gx_TB := gx_tb 63 (by decide +kernel) (by decide +kernel)
theorem tb_64 : Cond.selects RX5 yX5_passes yX5_passes ∈ gx_TB := gx_tb 64 (by decide +kernel) (by decide +kernel)
theorem tb_65 : Cond.selects RX5 yX5_number yX5_number ∈ gx_TB := gx_tb 65 (by decide +kernel) (by decide +kernel)
theorem tb_66 : Cond.selects RX5 yX5_calls yX5_calls ∈ gx_TB := gx_tb 66 (by decide +kernel) (by decide +kernel)
theorem tb_67 : Cond.initialized RL ∈ gx_TB := gx_tb 67 (by decide +kernel) (by decide +kernel)
theorem tb_68 : Cond.initialized RX4 ∈ gx_TB := gx_tb 68 (by decide +kernel) (by decide +kernel)
theorem tb_69 : Cond.initialized RX0 ∈ gx_TB := gx_tb 69 (by decide +kernel) (by decide +kernel)
theorem tb_70 : Cond.initialized RX3 ∈ gx_TB := gx_tb 70 (by decide +kernel) (by decide +kernel)
theorem tb_71 : Cond.initialized RX1 ∈ gx_TB := gx_tb 71 (by decide +kernel) (by decide +kernel)
theorem tb_72 : Cond.initialized RX2 ∈ gx_TB := gx_tb 72 (by decide +kernel) (by decide +kernel)
theorem tb_73 : Cond.initialized RX5 ∈ gx_TB := gx_tb 73 (by decide +kernel) (by decide +kernel)
theorem tb_74 : Cond.initialized RJ10 ∈ gx_TB := gx_tb 74 (by decide +kernel) (by decide +kernel)
theorem tb_75 : Cond.initialized RJ9 ∈ gx_TB := gx_tb 75 (by decide +kernel) (by decide +kernel)
theorem tb_76 : Cond.initialized RJ0 ∈ gx_TB := gx_tb 76 (by decide +kernel) (by decide +kernel)
theorem tb_77 : Cond.initialized RJ1 ∈ gx_TB := gx_tb 77 (by decide +kernel) (by decide +kernel)
theorem tb_78 : Cond.initialized RJ3 ∈ gx_TB := gx_tb 78 (by decide +kernel) (by decide +kernel)
theorem tb_79 : Cond.initialized RJ2 ∈ gx_TB := gx_tb 79 (by decide +kernel) (by decide +kernel)
theorem tb_80 : Cond.classLink RL 7 RX4 ∈ gx_TB := gx_tb 80 (by decide +kernel) (by decide +kernel)
theorem tb_81 : Cond.instantiable RX4 4 ∈ gx_TB := gx_tb 81 (by decide +kernel) (by decide +kernel)
theorem tb_82 : Cond.methodLink RL 9 yX4_init ∈ gx_TB := gx_tb 82 (by decide +kernel) (by decide +kernel)
theorem tb_83 : Cond.instanceMethod yX4_init ∈ gx_TB := gx_tb 83 (by decide +kernel) (by decide +kernel)
theorem tb_84 : Cond.code yX4_init cX4_init 1 none ∈ gx_TB := gx_tb 84 (by decide +kernel) (by decide +kernel)
theorem tb_85 : Cond.methodLink RX4 1 objectInit ∈ gx_TB := gx_tb 85 (by decide +kernel) (by decide +kernel)
theorem tb_86 : Cond.instanceMethod objectInit ∈ gx_TB := gx_tb 86 (by decide +kernel) (by decide +kernel)
theorem tb_87 : Cond.code objectInit object_method_1_code 1 none ∈ gx_TB := gx_tb 87 (by decide +kernel) (by decide +kernel)
theorem tb_88 : Cond.classLink RX4 7 RX0 ∈ gx_TB := gx_tb 88 (by decide +kernel) (by decide +kernel)
theorem tb_89 : Cond.instantiable RX0 5 ∈ gx_TB := gx_tb 89 (by decide +kernel) (by decide +kernel)
theorem tb_90 : Cond.methodLink RX4 9 yX0_init ∈ gx_TB := gx_tb 90 (by decide +kernel) (by decide +kernel)
theorem tb_91 : Cond.instanceMethod yX0_init ∈ gx_TB := gx_tb 91 (by decide +kernel) (by decide +kernel)
theorem tb_92 : Cond.code yX0_init cX0_init 2 none ∈ gx_TB := gx_tb 92 (by decide +kernel) (by decide +kernel)
theorem tb_93 : Cond.methodLink RX0 5 objectInit ∈ gx_TB := gx_tb 93 (by decide +kernel) (by decide +kernel)
theorem tb_94 : Cond.classLink RX0 15 RX3 ∈ gx_TB := gx_tb 94 (by decide +kernel) (by decide +kernel)
theorem tb_95 : Cond.instantiable RX3 4 ∈ gx_TB := gx_tb 95 (by decide +kernel) (by decide +kernel)
theorem tb_96 : Cond.methodLink RX0 17 yX3_init ∈ gx_TB := gx_tb 96 (by decide +kernel) (by decide +kernel)
theorem tb_97 : Cond.instanceMethod yX3_init ∈ gx_TB := gx_tb 97 (by decide +kernel) (by decide +kernel)
theorem tb_98 : Cond.code yX3_init cX3_init 5 none ∈ gx_TB := gx_tb 98 (by decide +kernel) (by decide +kernel)
theorem tb_99 : Cond.methodLink RX3 3 objectInit ∈ gx_TB := gx_tb 99 (by decide +kernel) (by decide +kernel)
theorem tb_100 : Cond.fieldLink RX3 9 "GiftPurposes$Table" "cells" "[I" ∈ gx_TB := gx_tb 100 (by decide +kernel) (by decide +kernel)
theorem tb_101 : Cond.fieldLink RX3 15 "GiftPurposes$Table" "start" "I" ∈ gx_TB := gx_tb 101 (by decide +kernel) (by decide +kernel)
theorem tb_102 : Cond.fieldLink RX3 19 "GiftPurposes$Table" "most" "I" ∈ gx_TB := gx_tb 102 (by decide +kernel) (by decide +kernel)
theorem tb_103 : Cond.fieldLink RX3 22 "GiftPurposes$Table" "width" "I" ∈ gx_TB := gx_tb 103 (by decide +kernel) (by decide +kernel)
theorem tb_113 : Cond.arrayClass .int ∈ gx_TB := gx_tb 113 (by decide +kernel) (by decide +kernel)
theorem tb_114 : Cond.methodLink RX0 33 yX0_addPurpose ∈ gx_TB := gx_tb 114 (by decide +kernel) (by decide +kernel)
theorem tb_115 : Cond.instanceMethod yX0_addPurpose ∈ gx_TB := gx_tb 115 (by decide +kernel) (by decide +kernel)
theorem tb_116 : Cond.selects RX0 yX0_addPurpose yX0_addPurpose ∈ gx_TB := gx_tb 116 (by decide +kernel) (by decide +kernel)
theorem tb_117 : Cond.code yX0_addPurpose cX0_addPurpose 2 (some .int) ∈ gx_TB := gx_tb 117 (by decide +kernel) (by decide +kernel)
theorem tb_118 : Cond.methodLink RX0 43 yX3_addRow ∈ gx_TB := gx_tb 118 (by decide +kernel) (by decide +kernel)
theorem tb_119 : Cond.instanceMethod yX3_addRow ∈ gx_TB := gx_tb 119 (by decide +kernel) (by decide +kernel)
theorem tb_120 : Cond.selects RX3 yX3_addRow yX3_addRow ∈ gx_TB := gx_tb 120 (by decide +kernel) (by decide +kernel)
theorem tb_121 : Cond.code yX3_addRow cX3_addRow 2 (some .int) ∈ gx_TB := gx_tb 121 (by decide +kernel) (by decide +kernel)
theorem tb_122 : Cond.methodLink RX0 46 yX3_put ∈ gx_TB := gx_tb 122 (by decide +kernel) (by decide +kernel)
theorem tb_123 : Cond.instanceMethod yX3_put ∈ gx_TB := gx_tb 123 (by decide +kernel) (by decide +kernel)
theorem tb_124 : Cond.selects RX3 yX3_put yX3_put ∈ gx_TB := gx_tb 124 (by decide +kernel) (by decide +kernel)
theorem tb_125 : Cond.code yX3_put cX3_put 4 none ∈ gx_TB := gx_tb 125 (by decide +kernel) (by decide +kernel)
theorem tb_126 : Cond.fieldLink RX0 11 "GiftPurposes$Books" "cells" "[I" ∈ gx_TB := gx_tb 126 (by decide +kernel) (by decide +kernel)
theorem tb_127 : Cond.fieldLink RX0 20 "GiftPurposes$Books" "purposes" "LGiftPurposes$Table;" ∈ gx_TB := gx_tb 127 (by decide +kernel) (by decide +kernel)
theorem tb_128 : Cond.fieldLink RX0 24 "GiftPurposes$Books" "donors" "LGiftPurposes$Table;" ∈ gx_TB := gx_tb 128 (by decide +kernel) (by decide +kernel)
theorem tb_129 : Cond.fieldLink RX0 27 "GiftPurposes$Books" "gifts" "LGiftPurposes$Table;" ∈ gx_TB := gx_tb 129 (by decide +kernel) (by decide +kernel)
theorem tb_130 : Cond.fieldLink RX0 30 "GiftPurposes$Books" "pledges" "LGiftPurposes$Table;" ∈ gx_TB := gx_tb 130 (by decide +kernel) (by decide +kernel)
theorem tb_142 : Cond.classLink RX4 21 RX1 ∈ gx_TB := gx_tb 142 (by decide +kernel) (by decide +kernel)
theorem tb_143 : Cond.instantiable RX1 3 ∈ gx_TB := gx_tb 143 (by decide +kernel) (by decide +kernel)
theorem tb_145 : Cond.instanceMethod yX1_init ∈ gx_TB := gx_tb 145 (by decide +kernel) (by decide +kernel)
theorem tb_146 : Cond.code yX1_init cX1_init 1 none ∈ gx_TB := gx_tb 146 (by decide +kernel) (by decide +kernel)
theorem tb_147 : Cond.methodLink RX1 5 objectInit ∈ gx_TB := gx_tb 147 (by decide +kernel) (by decide +kernel)
theorem tb_148 : Cond.classLink RX1 13 "[[I" ∈ gx_TB := gx_tb 148 (by decide +kernel) (by decide +kernel)
theorem tb_150 : Cond.fieldLink RX1 15 "GiftPurposes$History" "rows" "[[I" ∈ gx_TB := gx_tb 150 (by decide +kernel) (by decide +kernel)
theorem tb_151 : Cond.fieldLink RX1 18 "GiftPurposes$History" "oldest" "I" ∈ gx_TB := gx_tb 151 (by decide +kernel) (by decide +kernel)
theorem tb_152 : Cond.fieldLink RX1 22 "GiftPurposes$History" "states" "I" ∈ gx_TB := gx_tb 152 (by decide +kernel) (by decide +kernel)
theorem tb_160 : Cond.classLink RX4 28 RX2 ∈ gx_TB := gx_tb 160 (by decide +kernel) (by decide +kernel)
theorem tb_161 : Cond.instantiable RX2 7 ∈ gx_TB := gx_tb 161 (by decide +kernel) (by decide +kernel)
theorem tb_163 : Cond.instanceMethod yX2_init ∈ gx_TB := gx_tb 163 (by decide +kernel) (by decide +kernel)
theorem tb_164 : Cond.code yX2_init cX2_init 1 none ∈ gx_TB := gx_tb 164 (by decide +kernel) (by decide +kernel)
theorem tb_165 : Cond.methodLink RX2 3 objectInit ∈ gx_TB := gx_tb 165 (by decide +kernel) (by decide +kernel)
theorem tb_166 : Cond.fieldLink RX2 11 "GiftPurposes$Script" "signs" "[C" ∈ gx_TB := gx_tb 166 (by decide +kernel) (by decide +kernel)
theorem tb_167 : Cond.fieldLink RX2 15 "GiftPurposes$Script" "length" "I" ∈ gx_TB := gx_tb 167 (by decide +kernel) (by decide +kernel)
theorem tb_168 : Cond.fieldLink RX2 19 "GiftPurposes$Script" "numbers" "[I" ∈ gx_TB := gx_tb 168 (by decide +kernel) (by decide +kernel)
theorem tb_169 : Cond.fieldLink RX2 23 "GiftPurposes$Script" "read" "I" ∈ gx_TB := gx_tb 169 (by decide +kernel) (by decide +kernel)
theorem tb_170 : Cond.fieldLink RX2 26 "GiftPurposes$Script" "place" "I" ∈ gx_TB := gx_tb 170 (by decide +kernel) (by decide +kernel)
theorem tb_171 : Cond.fieldLink RX2 29 "GiftPurposes$Script" "reason" "I" ∈ gx_TB := gx_tb 171 (by decide +kernel) (by decide +kernel)
theorem tb_172 : Cond.fieldLink RX2 32 "GiftPurposes$Script" "cause" "I" ∈ gx_TB := gx_tb 172 (by decide +kernel) (by decide +kernel)
theorem tb_188 : Cond.arrayClass .char ∈ gx_TB := gx_tb 188 (by decide +kernel) (by decide +kernel)
theorem tb_189 : Cond.fieldLink RX4 12 "GiftPurposes" "books" "LGiftPurposes$Books;" ∈ gx_TB := gx_tb 189 (by decide +kernel) (by decide +kernel)
theorem tb_190 : Cond.fieldLink RX4 18 "GiftPurposes" "trial" "LGiftPurposes$Books;" ∈ gx_TB := gx_tb 190 (by decide +kernel) (by decide +kernel)
theorem tb_191 : Cond.fieldLink RX4 24 "GiftPurposes" "history" "LGiftPurposes$History;" ∈ gx_TB := gx_tb 191 (by decide +kernel) (by decide +kernel)
theorem tb_192 : Cond.fieldLink RX4 31 "GiftPurposes" "script" "LGiftPurposes$Script;" ∈ gx_TB := gx_tb 192 (by decide +kernel) (by decide +kernel)
theorem tb_202 : Cond.methodLink RL 13 yX4_purpose ∈ gx_TB := gx_tb 202 (by decide +kernel) (by decide +kernel)
theorem tb_203 : Cond.instanceMethod yX4_purpose ∈ gx_TB := gx_tb 203 (by decide +kernel) (by decide +kernel)
theorem tb_204 : Cond.selects RX4 yX4_purpose yX4_purpose ∈ gx_TB := gx_tb 204 (by decide +kernel) (by decide +kernel)
theorem tb_205 : Cond.code yX4_purpose cX4_purpose 1 (some .int) ∈ gx_TB := gx_tb 205 (by decide +kernel) (by decide +kernel)
theorem tb_206 : Cond.methodLink RX4 35 yX1_draft ∈ gx_TB := gx_tb 206 (by decide +kernel) (by decide +kernel)
theorem tb_207 : Cond.instanceMethod yX1_draft ∈ gx_TB := gx_tb 207 (by decide +kernel) (by decide +kernel)
theorem tb_208 : Cond.selects RX1 yX1_draft yX1_draft ∈ gx_TB := gx_tb 208 (by decide +kernel) (by decide +kernel)
theorem tb_209 : Cond.code yX1_draft cX1_draft 2 none ∈ gx_TB := gx_tb 209 (by decide +kernel) (by decide +kernel)
theorem tb_210 : Cond.methodLink RX1 25 yX0_saveTo ∈ gx_TB := gx_tb 210 (by decide +kernel) (by decide +kernel)
theorem tb_211 : Cond.instanceMethod yX0_saveTo ∈ gx_TB := gx_tb 211 (by decide +kernel) (by decide +kernel)
theorem tb_212 : Cond.selects RX0 yX0_saveTo yX0_saveTo ∈ gx_TB := gx_tb 212 (by decide +kernel) (by decide +kernel)
theorem tb_213 : Cond.code yX0_saveTo cX0_saveTo 2 none ∈ gx_TB := gx_tb 213 (by decide +kernel) (by decide +kernel)
theorem tb_214 : Cond.methodLink RX0 37 arraycopyName ∈ gx_TB := gx_tb 214 (by decide +kernel) (by decide +kernel)
theorem tb_215 : Cond.static arraycopyName ∈ gx_TB := gx_tb 215 (by decide +kernel) (by decide +kernel)
theorem tb_216 : Cond.native arraycopyName ∈ gx_TB := gx_tb 216 (by decide +kernel) (by decide +kernel)
theorem tb_217 : Cond.methodLink RX4 39 yX0_addPurpose ∈ gx_TB := gx_tb 217 (by decide +kernel) (by decide +kernel)
theorem tb_218 : Cond.methodLink RX4 43 yX1_keepUnlessError ∈ gx_TB := gx_tb 218 (by decide +kernel) (by decide +kernel)
theorem tb_219 : Cond.instanceMethod yX1_keepUnlessError ∈ gx_TB := gx_tb 219 (by decide +kernel) (by decide +kernel)
theorem tb_220 : Cond.selects RX1 yX1_keepUnlessError yX1_keepUnlessError ∈ gx_TB := gx_tb 220 (by decide +kernel) (by decide +kernel)
theorem tb_221 : Cond.code yX1_keepUnlessError cX1_keepUnlessError 2 (some .int) ∈ gx_TB := gx_tb 221 (by decide +kernel) (by decide +kernel)
theorem tb_222 : Cond.methodLink RL 18 yX4_donor ∈ gx_TB := gx_tb 222 (by decide +kernel) (by decide +kernel)
theorem tb_223 : Cond.instanceMethod yX4_donor ∈ gx_TB := gx_tb 223 (by decide +kernel) (by decide +kernel)
theorem tb_224 : Cond.selects RX4 yX4_donor yX4_donor ∈ gx_TB := gx_tb 224 (by decide +kernel) (by decide +kernel)
theorem tb_225 : Cond.code yX4_donor cX4_donor 1 (some .int) ∈ gx_TB := gx_tb 225 (by decide +kernel) (by decide +kernel)
theorem tb_226 : Cond.methodLink RX4 47 yX0_addDonor ∈ gx_TB := gx_tb 226 (by decide +kernel) (by decide +kernel)
theorem tb_227 : Cond.instanceMethod yX0_addDonor ∈ gx_TB := gx_tb 227 (by decide +kernel) (by decide +kernel)
theorem tb_228 : Cond.selects RX0 yX0_addDonor yX0_addDonor ∈ gx_TB := gx_tb 228 (by decide +kernel) (by decide +kernel)
theorem tb_229 : Cond.code yX0_addDonor cX0_addDonor 3 (some .int) ∈ gx_TB := gx_tb 229 (by decide +kernel) (by decide +kernel)
theorem tb_230 : Cond.methodLink RL 22 yX4_declare ∈ gx_TB := gx_tb 230 (by decide +kernel) (by decide +kernel)
theorem tb_231 : Cond.instanceMethod yX4_declare ∈ gx_TB := gx_tb 231 (by decide +kernel) (by decide +kernel)
theorem tb_232 : Cond.selects RX4 yX4_declare yX4_declare ∈ gx_TB := gx_tb 232 (by decide +kernel) (by decide +kernel)
theorem tb_233 : Cond.code yX4_declare cX4_declare 3 (some .int) ∈ gx_TB := gx_tb 233 (by decide +kernel) (by decide +kernel)
theorem tb_234 : Cond.methodLink RX4 50 yX0_letDeclare ∈ gx_TB := gx_tb 234 (by decide +kernel) (by decide +kernel)
theorem tb_235 : Cond.instanceMethod yX0_letDeclare ∈ gx_TB := gx_tb 235 (by decide +kernel) (by decide +kernel)
theorem tb_236 : Cond.selects RX0 yX0_letDeclare yX0_letDeclare ∈ gx_TB := gx_tb 236 (by decide +kernel) (by decide +kernel)
theorem tb_237 : Cond.code yX0_letDeclare cX0_letDeclare 4 (some .int) ∈ gx_TB := gx_tb 237 (by decide +kernel) (by decide +kernel)
theorem tb_238 : Cond.methodLink RX0 50 yX3_has ∈ gx_TB := gx_tb 238 (by decide +kernel) (by decide +kernel)
theorem tb_239 : Cond.instanceMethod yX3_has ∈ gx_TB := gx_tb 239 (by decide +kernel) (by decide +kernel)
theorem tb_240 : Cond.selects RX3 yX3_has yX3_has ∈ gx_TB := gx_tb 240 (by decide +kernel) (by decide +kernel)
theorem tb_241 : Cond.code yX3_has cX3_has 2 (some .boolean) ∈ gx_TB := gx_tb 241 (by decide +kernel) (by decide +kernel)
theorem tb_243 : Cond.static yX4_within ∈ gx_TB := gx_tb 243 (by decide +kernel) (by decide +kernel)
theorem tb_244 : Cond.code yX4_within cX4_within 3 (some .boolean) ∈ gx_TB := gx_tb 244 (by decide +kernel) (by decide +kernel)
theorem tb_245 : Cond.methodLink RX0 58 yX3_at ∈ gx_TB := gx_tb 245 (by decide +kernel) (by decide +kernel)
theorem tb_246 : Cond.instanceMethod yX3_at ∈ gx_TB := gx_tb 246 (by decide +kernel) (by decide +kernel)
theorem tb_247 : Cond.selects RX3 yX3_at yX3_at ∈ gx_TB := gx_tb 247 (by decide +kernel) (by decide +kernel)
theorem tb_248 : Cond.code yX3_at cX3_at 3 (some .int) ∈ gx_TB := gx_tb 248 (by decide +kernel) (by decide +kernel)
theorem tb_249 : Cond.methodLink RL 27 yX4_give ∈ gx_TB := gx_tb 249 (by decide +kernel) (by decide +kernel)
theorem tb_250 : Cond.instanceMethod yX4_give ∈ gx_TB := gx_tb 250 (by decide +kernel) (by decide +kernel)
theorem tb_251 : Cond.selects RX4 yX4_give yX4_give ∈ gx_TB := gx_tb 251 (by decide +kernel) (by decide +kernel)
theorem tb_252 : Cond.code yX4_give cX4_give 4 (some .int) ∈ gx_TB := gx_tb 252 (by decide +kernel) (by decide +kernel)
theorem tb_253 : Cond.methodLink RX4 54 yX0_addGift ∈ gx_TB := gx_tb 253 (by decide +kernel) (by decide +kernel)
theorem tb_254 : Cond.instanceMethod yX0_addGift ∈ gx_TB := gx_tb 254 (by decide +kernel) (by decide +kernel)
theorem tb_255 : Cond.selects RX0 yX0_addGift yX0_addGift ∈ gx_TB := gx_tb 255 (by decide +kernel) (by decide +kernel)
theorem tb_256 : Cond.code yX0_addGift cX0_addGift 4 (some .int) ∈ gx_TB := gx_tb 256 (by decide +kernel) (by decide +kernel)
theorem tb_257 : Cond.methodLink RX0 62 yX0_isClosed ∈ gx_TB := gx_tb 257 (by decide +kernel) (by decide +kernel)
theorem tb_258 : Cond.instanceMethod yX0_isClosed ∈ gx_TB := gx_tb 258 (by decide +kernel) (by decide +kernel)
theorem tb_259 : Cond.selects RX0 yX0_isClosed yX0_isClosed ∈ gx_TB := gx_tb 259 (by decide +kernel) (by decide +kernel)
theorem tb_260 : Cond.code yX0_isClosed cX0_isClosed 2 (some .boolean) ∈ gx_TB := gx_tb 260 (by decide +kernel) (by decide +kernel)
theorem tb_261 : Cond.methodLink RX0 65 yX3_isFull ∈ gx_TB := gx_tb 261 (by decide +kernel) (by decide +kernel)
theorem tb_262 : Cond.instanceMethod yX3_isFull ∈ gx_TB := gx_tb 262 (by decide +kernel) (by decide +kernel)
theorem tb_263 : Cond.selects RX3 yX3_isFull yX3_isFull ∈ gx_TB := gx_tb 263 (by decide +kernel) (by decide +kernel)
theorem tb_264 : Cond.code yX3_isFull cX3_isFull 1 (some .boolean) ∈ gx_TB := gx_tb 264 (by decide +kernel) (by decide +kernel)
theorem tb_265 : Cond.methodLink RX0 69 yX0_bookGift ∈ gx_TB := gx_tb 265 (by decide +kernel) (by decide +kernel)
theorem tb_267 : Cond.instanceMethod yX0_bookGift ∈ gx_TB := gx_tb 267 (by decide +kernel) (by decide +kernel)
theorem tb_268 : Cond.code yX0_bookGift cX0_bookGift 6 (some .int) ∈ gx_TB := gx_tb 268 (by decide +kernel) (by decide +kernel)
theorem tb_269 : Cond.methodLink RX0 73 yX3_add ∈ gx_TB := gx_tb 269 (by decide +kernel) (by decide +kernel)
theorem tb_270 : Cond.instanceMethod yX3_add ∈ gx_TB := gx_tb 270 (by decide +kernel) (by decide +kernel)
theorem tb_271 : Cond.selects RX3 yX3_add yX3_add ∈ gx_TB := gx_tb 271 (by decide +kernel) (by decide +kernel)
theorem tb_272 : Cond.code yX3_add cX3_add 4 none ∈ gx_TB := gx_tb 272 (by decide +kernel) (by decide +kernel)
theorem tb_273 : Cond.methodLink RL 32 yX4_pledge ∈ gx_TB := gx_tb 273 (by decide +kernel) (by decide +kernel)
theorem tb_274 : Cond.instanceMethod yX4_pledge ∈ gx_TB := gx_tb 274 (by decide +kernel) (by decide +kernel)
theorem tb_275 : Cond.selects RX4 yX4_pledge yX4_pledge ∈ gx_TB := gx_tb 275 (by decide +kernel) (by decide +kernel)
theorem tb_276 : Cond.code yX4_pledge cX4_pledge 5 (some .int) ∈ gx_TB := gx_tb 276 (by decide +kernel) (by decide +kernel)
theorem tb_277 : Cond.methodLink RX4 58 yX0_addPledge ∈ gx_TB := gx_tb 277 (by decide +kernel) (by decide +kernel)
theorem tb_278 : Cond.instanceMethod yX0_addPledge ∈ gx_TB := gx_tb 278 (by decide +kernel) (by decide +kernel)
theorem tb_279 : Cond.selects RX0 yX0_addPledge yX0_addPledge ∈ gx_TB := gx_tb 279 (by decide +kernel) (by decide +kernel)
theorem tb_280 : Cond.code yX0_addPledge cX0_addPledge 6 (some .int) ∈ gx_TB := gx_tb 280 (by decide +kernel) (by decide +kernel)
theorem tb_281 : Cond.methodLink RX0 76 yX0_isSpan ∈ gx_TB := gx_tb 281 (by decide +kernel) (by decide +kernel)
theorem tb_282 : Cond.static yX0_isSpan ∈ gx_TB := gx_tb 282 (by decide +kernel) (by decide +kernel)
theorem tb_283 : Cond.code yX0_isSpan cX0_isSpan 1 (some .boolean) ∈ gx_TB := gx_tb 283 (by decide +kernel) (by decide +kernel)
theorem tb_284 : Cond.methodLink RL 37 yX4_miss ∈ gx_TB := gx_tb 284 (by decide +kernel) (by decide +kernel)
theorem tb_285 : Cond.instanceMethod yX4_miss ∈ gx_TB := gx_tb 285 (by decide +kernel) (by decide +kernel)
theorem tb_286 : Cond.selects RX4 yX4_miss yX4_miss ∈ gx_TB := gx_tb 286 (by decide +kernel) (by decide +kernel)
theorem tb_287 : Cond.code yX4_miss cX4_miss 2 (some .int) ∈ gx_TB := gx_tb 287 (by decide +kernel) (by decide +kernel)
theorem tb_288 : Cond.methodLink RX4 62 yX0_tellMiss ∈ gx_TB := gx_tb 288 (by decide +kernel) (by decide +kernel)
theorem tb_289 : Cond.instanceMethod yX0_tellMiss ∈ gx_TB := gx_tb 289 (by decide +kernel) (by decide +kernel)
theorem tb_290 : Cond.selects RX0 yX0_tellMiss yX0_tellMiss ∈ gx_TB := gx_tb 290 (by decide +kernel) (by decide +kernel)
theorem tb_291 : Cond.code yX0_tellMiss cX0_tellMiss 2 (some .int) ∈ gx_TB := gx_tb 291 (by decide +kernel) (by decide +kernel)
theorem tb_292 : Cond.methodLink RX0 79 yX0_isRunning ∈ gx_TB := gx_tb 292 (by decide +kernel) (by decide +kernel)
theorem tb_294 : Cond.instanceMethod yX0_isRunning ∈ gx_TB := gx_tb 294 (by decide +kernel) (by decide +kernel)
theorem tb_295 : Cond.code yX0_isRunning cX0_isRunning 2 (some .boolean) ∈ gx_TB := gx_tb 295 (by decide +kernel) (by decide +kernel)
theorem tb_296 : Cond.methodLink RL 42 yX4_stop ∈ gx_TB := gx_tb 296 (by decide +kernel) (by decide +kernel)
theorem tb_297 : Cond.instanceMethod yX4_stop ∈ gx_TB := gx_tb 297 (by decide +kernel) (by decide +kernel)
theorem tb_298 : Cond.selects RX4 yX4_stop yX4_stop ∈ gx_TB := gx_tb 298 (by decide +kernel) (by decide +kernel)
theorem tb_299 : Cond.code yX4_stop cX4_stop 2 (some .int) ∈ gx_TB := gx_tb 299 (by decide +kernel) (by decide +kernel)
theorem tb_300 : Cond.methodLink RX4 65 yX0_stopPledge ∈ gx_TB := gx_tb 300 (by decide +kernel) (by decide +kernel)
theorem tb_301 : Cond.instanceMethod yX0_stopPledge ∈ gx_TB := gx_tb 301 (by decide +kernel) (by decide +kernel)
theorem tb_302 : Cond.selects RX0 yX0_stopPledge yX0_stopPledge ∈ gx_TB := gx_tb 302 (by decide +kernel) (by decide +kernel)
theorem tb_303 : Cond.code yX0_stopPledge cX0_stopPledge 2 (some .int) ∈ gx_TB := gx_tb 303 (by decide +kernel) (by decide +kernel)
theorem tb_304 : Cond.methodLink RX0 82 yX0_haltPledge ∈ gx_TB := gx_tb 304 (by decide +kernel) (by decide +kernel)
theorem tb_306 : Cond.instanceMethod yX0_haltPledge ∈ gx_TB := gx_tb 306 (by decide +kernel) (by decide +kernel)
theorem tb_307 : Cond.code yX0_haltPledge cX0_haltPledge 2 none ∈ gx_TB := gx_tb 307 (by decide +kernel) (by decide +kernel)
theorem tb_308 : Cond.methodLink RL 46 yX4_claim ∈ gx_TB := gx_tb 308 (by decide +kernel) (by decide +kernel)
theorem tb_309 : Cond.instanceMethod yX4_claim ∈ gx_TB := gx_tb 309 (by decide +kernel) (by decide +kernel)
theorem tb_310 : Cond.selects RX4 yX4_claim yX4_claim ∈ gx_TB := gx_tb 310 (by decide +kernel) (by decide +kernel)
theorem tb_311 : Cond.code yX4_claim cX4_claim 1 (some .int) ∈ gx_TB := gx_tb 311 (by decide +kernel) (by decide +kernel)
theorem tb_312 : Cond.methodLink RX4 68 yX0_claimGifts ∈ gx_TB := gx_tb 312 (by decide +kernel) (by decide +kernel)
theorem tb_313 : Cond.instanceMethod yX0_claimGifts ∈ gx_TB := gx_tb 313 (by decide +kernel) (by decide +kernel)
theorem tb_314 : Cond.selects RX0 yX0_claimGifts yX0_claimGifts ∈ gx_TB := gx_tb 314 (by decide +kernel) (by decide +kernel)
theorem tb_315 : Cond.code yX0_claimGifts cX0_claimGifts 5 (some .int) ∈ gx_TB := gx_tb 315 (by decide +kernel) (by decide +kernel)
theorem tb_316 : Cond.methodLink RX0 86 yX3_size ∈ gx_TB := gx_tb 316 (by decide +kernel) (by decide +kernel)
theorem tb_317 : Cond.instanceMethod yX3_size ∈ gx_TB := gx_tb 317 (by decide +kernel) (by decide +kernel)
theorem tb_318 : Cond.selects RX3 yX3_size yX3_size ∈ gx_TB := gx_tb 318 (by decide +kernel) (by decide +kernel)
theorem tb_319 : Cond.code yX3_size cX3_size 1 (some .int) ∈ gx_TB := gx_tb 319 (by decide +kernel) (by decide +kernel)
theorem tb_320 : Cond.methodLink RX0 92 yX0_isOf ∈ gx_TB := gx_tb 320 (by decide +kernel) (by decide +kernel)
theorem tb_322 : Cond.instanceMethod yX0_isOf ∈ gx_TB := gx_tb 322 (by decide +kernel) (by decide +kernel)
theorem tb_323 : Cond.code yX0_isOf cX0_isOf 3 (some .boolean) ∈ gx_TB := gx_tb 323 (by decide +kernel) (by decide +kernel)
theorem tb_324 : Cond.methodLink RX0 96 yX0_canBeClaimed ∈ gx_TB := gx_tb 324 (by decide +kernel) (by decide +kernel)
theorem tb_326 : Cond.instanceMethod yX0_canBeClaimed ∈ gx_TB := gx_tb 326 (by decide +kernel) (by decide +kernel)
theorem tb_327 : Cond.code yX0_canBeClaimed cX0_canBeClaimed 5 (some .boolean) ∈ gx_TB := gx_tb 327 (by decide +kernel) (by decide +kernel)
theorem tb_328 : Cond.methodLink RX0 106 yX0_isClaimed ∈ gx_TB := gx_tb 328 (by decide +kernel) (by decide +kernel)
theorem tb_330 : Cond.instanceMethod yX0_isClaimed ∈ gx_TB := gx_tb 330 (by decide +kernel) (by decide +kernel)
theorem tb_331 : Cond.code yX0_isClaimed cX0_isClaimed 2 (some .boolean) ∈ gx_TB := gx_tb 331 (by decide +kernel) (by decide +kernel)
theorem tb_332 : Cond.methodLink RX0 109 yX0_isRefunded ∈ gx_TB := gx_tb 332 (by decide +kernel) (by decide +kernel)
theorem tb_334 : Cond.instanceMethod yX0_isRefunded ∈ gx_TB := gx_tb 334 (by decide +kernel) (by decide +kernel)
theorem tb_335 : Cond.code yX0_isRefunded cX0_isRefunded 2 (some .boolean) ∈ gx_TB := gx_tb 335 (by decide +kernel) (by decide +kernel)
theorem tb_336 : Cond.methodLink RX0 112 yX0_claimedInYear ∈ gx_TB := gx_tb 336 (by decide +kernel) (by decide +kernel)
theorem tb_338 : Cond.instanceMethod yX0_claimedInYear ∈ gx_TB := gx_tb 338 (by decide +kernel) (by decide +kernel)
theorem tb_339 : Cond.code yX0_claimedInYear cX0_claimedInYear 5 (some .int) ∈ gx_TB := gx_tb 339 (by decide +kernel) (by decide +kernel)
theorem tb_340 : Cond.methodLink RX0 99 yX0_homeOfGift ∈ gx_TB := gx_tb 340 (by decide +kernel) (by decide +kernel)
theorem tb_342 : Cond.instanceMethod yX0_homeOfGift ∈ gx_TB := gx_tb 342 (by decide +kernel) (by decide +kernel)
theorem tb_343 : Cond.code yX0_homeOfGift cX0_homeOfGift 2 (some .int) ∈ gx_TB := gx_tb 343 (by decide +kernel) (by decide +kernel)
theorem tb_344 : Cond.methodLink RX0 103 yX0_taxOf ∈ gx_TB := gx_tb 344 (by decide +kernel) (by decide +kernel)
theorem tb_346 : Cond.instanceMethod yX0_taxOf ∈ gx_TB := gx_tb 346 (by decide +kernel) (by decide +kernel)
theorem tb_347 : Cond.code yX0_taxOf cX0_taxOf 2 (some .int) ∈ gx_TB := gx_tb 347 (by decide +kernel) (by decide +kernel)
theorem tb_348 : Cond.methodLink RL 50 yX4_spend ∈ gx_TB := gx_tb 348 (by decide +kernel) (by decide +kernel)
theorem tb_349 : Cond.instanceMethod yX4_spend ∈ gx_TB := gx_tb 349 (by decide +kernel) (by decide +kernel)
theorem tb_350 : Cond.selects RX4 yX4_spend yX4_spend ∈ gx_TB := gx_tb 350 (by decide +kernel) (by decide +kernel)
theorem tb_351 : Cond.code yX4_spend cX4_spend 3 (some .int) ∈ gx_TB := gx_tb 351 (by decide +kernel) (by decide +kernel)
theorem tb_352 : Cond.methodLink RX4 71 yX0_spendOn ∈ gx_TB := gx_tb 352 (by decide +kernel) (by decide +kernel)
theorem tb_353 : Cond.instanceMethod yX0_spendOn ∈ gx_TB := gx_tb 353 (by decide +kernel) (by decide +kernel)
theorem tb_354 : Cond.selects RX0 yX0_spendOn yX0_spendOn ∈ gx_TB := gx_tb 354 (by decide +kernel) (by decide +kernel)
theorem tb_355 : Cond.code yX0_spendOn cX0_spendOn 4 (some .int) ∈ gx_TB := gx_tb 355 (by decide +kernel) (by decide +kernel)
theorem tb_356 : Cond.methodLink RX0 115 yX0_fundOf ∈ gx_TB := gx_tb 356 (by decide +kernel) (by decide +kernel)
theorem tb_357 : Cond.instanceMethod yX0_fundOf ∈ gx_TB := gx_tb 357 (by decide +kernel) (by decide +kernel)
theorem tb_358 : Cond.selects RX0 yX0_fundOf yX0_fundOf ∈ gx_TB := gx_tb 358 (by decide +kernel) (by decide +kernel)
theorem tb_359 : Cond.code yX0_fundOf cX0_fundOf 2 (some .int) ∈ gx_TB := gx_tb 359 (by decide +kernel) (by decide +kernel)
theorem tb_360 : Cond.methodLink RX0 118 yJ9_max_7cf53 ∈ gx_TB := gx_tb 360 (by decide +kernel) (by decide +kernel)
theorem tb_361 : Cond.static yJ9_max_7cf53 ∈ gx_TB := gx_tb 361 (by decide +kernel) (by decide +kernel)
theorem tb_362 : Cond.code yJ9_max_7cf53 cJ9_max_7cf53 2 (some .int) ∈ gx_TB := gx_tb 362 (by decide +kernel) (by decide +kernel)
theorem tb_363 : Cond.methodLink RL 54 yX4_agree ∈ gx_TB := gx_tb 363 (by decide +kernel) (by decide +kernel)
theorem tb_364 : Cond.instanceMethod yX4_agree ∈ gx_TB := gx_tb 364 (by decide +kernel) (by decide +kernel)
theorem tb_365 : Cond.selects RX4 yX4_agree yX4_agree ∈ gx_TB := gx_tb 365 (by decide +kernel) (by decide +kernel)
theorem tb_366 : Cond.code yX4_agree cX4_agree 4 (some .int) ∈ gx_TB := gx_tb 366 (by decide +kernel) (by decide +kernel)
theorem tb_367 : Cond.methodLink RX4 74 yX0_consentTo ∈ gx_TB := gx_tb 367 (by decide +kernel) (by decide +kernel)
theorem tb_368 : Cond.instanceMethod yX0_consentTo ∈ gx_TB := gx_tb 368 (by decide +kernel) (by decide +kernel)
theorem tb_369 : Cond.selects RX0 yX0_consentTo yX0_consentTo ∈ gx_TB := gx_tb 369 (by decide +kernel) (by decide +kernel)
theorem tb_370 : Cond.code yX0_consentTo cX0_consentTo 4 (some .int) ∈ gx_TB := gx_tb 370 (by decide +kernel) (by decide +kernel)
theorem tb_371 : Cond.methodLink RX0 123 yX0_areTwoPurposes ∈ gx_TB := gx_tb 371 (by decide +kernel) (by decide +kernel)
theorem tb_373 : Cond.instanceMethod yX0_areTwoPurposes ∈ gx_TB := gx_tb 373 (by decide +kernel) (by decide +kernel)
theorem tb_374 : Cond.code yX0_areTwoPurposes cX0_areTwoPurposes 3 (some .boolean) ∈ gx_TB := gx_tb 374 (by decide +kernel) (by decide +kernel)
theorem tb_375 : Cond.methodLink RX0 126 yX0_areMergeable ∈ gx_TB := gx_tb 375 (by decide +kernel) (by decide +kernel)
theorem tb_377 : Cond.instanceMethod yX0_areMergeable ∈ gx_TB := gx_tb 377 (by decide +kernel) (by decide +kernel)
theorem tb_378 : Cond.code yX0_areMergeable cX0_areMergeable 3 (some .boolean) ∈ gx_TB := gx_tb 378 (by decide +kernel) (by decide +kernel)
theorem tb_379 : Cond.methodLink RX0 129 yX0_weightOfDonor ∈ gx_TB := gx_tb 379 (by decide +kernel) (by decide +kernel)
theorem tb_381 : Cond.instanceMethod yX0_weightOfDonor ∈ gx_TB := gx_tb 381 (by decide +kernel) (by decide +kernel)
theorem tb_382 : Cond.code yX0_weightOfDonor cX0_weightOfDonor 5 (some .int) ∈ gx_TB := gx_tb 382 (by decide +kernel) (by decide +kernel)
theorem tb_383 : Cond.methodLink RX0 151 yX0_weightOf ∈ gx_TB := gx_tb 383 (by decide +kernel) (by decide +kernel)
theorem tb_385 : Cond.instanceMethod yX0_weightOf ∈ gx_TB := gx_tb 385 (by decide +kernel) (by decide +kernel)
theorem tb_386 : Cond.code yX0_weightOf cX0_weightOf 4 (some .int) ∈ gx_TB := gx_tb 386 (by decide +kernel) (by decide +kernel)
theorem tb_387 : Cond.methodLink RL 58 yX4_merge ∈ gx_TB := gx_tb 387 (by decide +kernel) (by decide +kernel)
theorem tb_388 : Cond.instanceMethod yX4_merge ∈ gx_TB := gx_tb 388 (by decide +kernel) (by decide +kernel)
theorem tb_389 : Cond.selects RX4 yX4_merge yX4_merge ∈ gx_TB := gx_tb 389 (by decide +kernel) (by decide +kernel)
theorem tb_390 : Cond.code yX4_merge cX4_merge 3 (some .int) ∈ gx_TB := gx_tb 390 (by decide +kernel) (by decide +kernel)
theorem tb_391 : Cond.methodLink RX4 77 yX0_mergePurpose ∈ gx_TB := gx_tb 391 (by decide +kernel) (by decide +kernel)
theorem tb_392 : Cond.instanceMethod yX0_mergePurpose ∈ gx_TB := gx_tb 392 (by decide +kernel) (by decide +kernel)
theorem tb_393 : Cond.selects RX0 yX0_mergePurpose yX0_mergePurpose ∈ gx_TB := gx_tb 393 (by decide +kernel) (by decide +kernel)
theorem tb_394 : Cond.code yX0_mergePurpose cX0_mergePurpose 5 (some .int) ∈ gx_TB := gx_tb 394 (by decide +kernel) (by decide +kernel)
theorem tb_395 : Cond.methodLink RX0 132 yX0_weightOfAll ∈ gx_TB := gx_tb 395 (by decide +kernel) (by decide +kernel)
theorem tb_397 : Cond.instanceMethod yX0_weightOfAll ∈ gx_TB := gx_tb 397 (by decide +kernel) (by decide +kernel)
theorem tb_398 : Cond.code yX0_weightOfAll cX0_weightOfAll 4 (some .int) ∈ gx_TB := gx_tb 398 (by decide +kernel) (by decide +kernel)
theorem tb_399 : Cond.methodLink RX0 135 yX0_weightOfConsents ∈ gx_TB := gx_tb 399 (by decide +kernel) (by decide +kernel)
theorem tb_401 : Cond.instanceMethod yX0_weightOfConsents ∈ gx_TB := gx_tb 401 (by decide +kernel) (by decide +kernel)
theorem tb_402 : Cond.code yX0_weightOfConsents cX0_weightOfConsents 5 (some .int) ∈ gx_TB := gx_tb 402 (by decide +kernel) (by decide +kernel)
theorem tb_403 : Cond.methodLink RX0 154 yX0_agreesTo ∈ gx_TB := gx_tb 403 (by decide +kernel) (by decide +kernel)
theorem tb_405 : Cond.instanceMethod yX0_agreesTo ∈ gx_TB := gx_tb 405 (by decide +kernel) (by decide +kernel)
theorem tb_406 : Cond.code yX0_agreesTo cX0_agreesTo 4 (some .boolean) ∈ gx_TB := gx_tb 406 (by decide +kernel) (by decide +kernel)
theorem tb_407 : Cond.methodLink RX0 138 yX0_handOnPledges ∈ gx_TB := gx_tb 407 (by decide +kernel) (by decide +kernel)
theorem tb_409 : Cond.instanceMethod yX0_handOnPledges ∈ gx_TB := gx_tb 409 (by decide +kernel) (by decide +kernel)
theorem tb_410 : Cond.code yX0_handOnPledges cX0_handOnPledges 4 none ∈ gx_TB := gx_tb 410 (by decide +kernel) (by decide +kernel)
theorem tb_411 : Cond.methodLink RX0 142 yX0_forgetConsents ∈ gx_TB := gx_tb 411 (by decide +kernel) (by decide +kernel)
theorem tb_413 : Cond.instanceMethod yX0_forgetConsents ∈ gx_TB := gx_tb 413 (by decide +kernel) (by decide +kernel)
theorem tb_414 : Cond.code yX0_forgetConsents cX0_forgetConsents 3 none ∈ gx_TB := gx_tb 414 (by decide +kernel) (by decide +kernel)
theorem tb_415 : Cond.methodLink RX0 145 yX0_closePurpose ∈ gx_TB := gx_tb 415 (by decide +kernel) (by decide +kernel)
theorem tb_417 : Cond.instanceMethod yX0_closePurpose ∈ gx_TB := gx_tb 417 (by decide +kernel) (by decide +kernel)
theorem tb_418 : Cond.code yX0_closePurpose cX0_closePurpose 4 none ∈ gx_TB := gx_tb 418 (by decide +kernel) (by decide +kernel)
theorem tb_419 : Cond.methodLink RX0 148 yX0_moveFund ∈ gx_TB := gx_tb 419 (by decide +kernel) (by decide +kernel)
theorem tb_421 : Cond.instanceMethod yX0_moveFund ∈ gx_TB := gx_tb 421 (by decide +kernel) (by decide +kernel)
theorem tb_422 : Cond.code yX0_moveFund cX0_moveFund 4 (some .int) ∈ gx_TB := gx_tb 422 (by decide +kernel) (by decide +kernel)
theorem tb_423 : Cond.methodLink RL 62 yX4_refund ∈ gx_TB := gx_tb 423 (by decide +kernel) (by decide +kernel)
theorem tb_424 : Cond.instanceMethod yX4_refund ∈ gx_TB := gx_tb 424 (by decide +kernel) (by decide +kernel)
theorem tb_425 : Cond.selects RX4 yX4_refund yX4_refund ∈ gx_TB := gx_tb 425 (by decide +kernel) (by decide +kernel)
theorem tb_426 : Cond.code yX4_refund cX4_refund 2 (some .int) ∈ gx_TB := gx_tb 426 (by decide +kernel) (by decide +kernel)
theorem tb_427 : Cond.methodLink RX4 80 yX0_refundGift ∈ gx_TB := gx_tb 427 (by decide +kernel) (by decide +kernel)
theorem tb_428 : Cond.instanceMethod yX0_refundGift ∈ gx_TB := gx_tb 428 (by decide +kernel) (by decide +kernel)
theorem tb_429 : Cond.selects RX0 yX0_refundGift yX0_refundGift ∈ gx_TB := gx_tb 429 (by decide +kernel) (by decide +kernel)
theorem tb_430 : Cond.code yX0_refundGift cX0_refundGift 5 (some .int) ∈ gx_TB := gx_tb 430 (by decide +kernel) (by decide +kernel)
theorem tb_431 : Cond.methodLink RL 66 yX4_pass ∈ gx_TB := gx_tb 431 (by decide +kernel) (by decide +kernel)
theorem tb_432 : Cond.instanceMethod yX4_pass ∈ gx_TB := gx_tb 432 (by decide +kernel) (by decide +kernel)
theorem tb_433 : Cond.selects RX4 yX4_pass yX4_pass ∈ gx_TB := gx_tb 433 (by decide +kernel) (by decide +kernel)
theorem tb_434 : Cond.code yX4_pass cX4_pass 2 (some .int) ∈ gx_TB := gx_tb 434 (by decide +kernel) (by decide +kernel)
theorem tb_435 : Cond.methodLink RX4 83 yX0_passMonths ∈ gx_TB := gx_tb 435 (by decide +kernel) (by decide +kernel)
theorem tb_436 : Cond.instanceMethod yX0_passMonths ∈ gx_TB := gx_tb 436 (by decide +kernel) (by decide +kernel)
theorem tb_437 : Cond.selects RX0 yX0_passMonths yX0_passMonths ∈ gx_TB := gx_tb 437 (by decide +kernel) (by decide +kernel)
theorem tb_438 : Cond.code yX0_passMonths cX0_passMonths 6 (some .int) ∈ gx_TB := gx_tb 438 (by decide +kernel) (by decide +kernel)
theorem tb_439 : Cond.methodLink RX0 89 yX0_runPledge ∈ gx_TB := gx_tb 439 (by decide +kernel) (by decide +kernel)
theorem tb_441 : Cond.instanceMethod yX0_runPledge ∈ gx_TB := gx_tb 441 (by decide +kernel) (by decide +kernel)
theorem tb_442 : Cond.code yX0_runPledge cX0_runPledge 5 none ∈ gx_TB := gx_tb 442 (by decide +kernel) (by decide +kernel)
theorem tb_443 : Cond.methodLink RL 70 yX4_set ∈ gx_TB := gx_tb 443 (by decide +kernel) (by decide +kernel)
theorem tb_444 : Cond.instanceMethod yX4_set ∈ gx_TB := gx_tb 444 (by decide +kernel) (by decide +kernel)
theorem tb_445 : Cond.selects RX4 yX4_set yX4_set ∈ gx_TB := gx_tb 445 (by decide +kernel) (by decide +kernel)
theorem tb_446 : Cond.code yX4_set cX4_set 3 (some .int) ∈ gx_TB := gx_tb 446 (by decide +kernel) (by decide +kernel)
theorem tb_447 : Cond.methodLink RX4 86 yX0_changeSetting ∈ gx_TB := gx_tb 447 (by decide +kernel) (by decide +kernel)
theorem tb_448 : Cond.instanceMethod yX0_changeSetting ∈ gx_TB := gx_tb 448 (by decide +kernel) (by decide +kernel)
theorem tb_449 : Cond.selects RX0 yX0_changeSetting yX0_changeSetting ∈ gx_TB := gx_tb 449 (by decide +kernel) (by decide +kernel)
theorem tb_450 : Cond.code yX0_changeSetting cX0_changeSetting 6 (some .int) ∈ gx_TB := gx_tb 450 (by decide +kernel) (by decide +kernel)
theorem tb_451 : Cond.constant RX0 157 (99999) ∈ gx_TB := gx_tb 451 (by decide +kernel) (by decide +kernel)
theorem tb_452 : Cond.methodLink RL 74 yX4_purposeOf ∈ gx_TB := gx_tb 452 (by decide +kernel) (by decide +kernel)
theorem tb_453 : Cond.instanceMethod yX4_purposeOf ∈ gx_TB := gx_tb 453 (by decide +kernel) (by decide +kernel)
theorem tb_454 : Cond.selects RX4 yX4_purposeOf yX4_purposeOf ∈ gx_TB := gx_tb 454 (by decide +kernel) (by decide +kernel)
theorem tb_455 : Cond.code yX4_purposeOf cX4_purposeOf 3 (some .int) ∈ gx_TB := gx_tb 455 (by decide +kernel) (by decide +kernel)
theorem tb_456 : Cond.methodLink RX4 89 yX0_tellPurpose ∈ gx_TB := gx_tb 456 (by decide +kernel) (by decide +kernel)
theorem tb_457 : Cond.instanceMethod yX0_tellPurpose ∈ gx_TB := gx_tb 457 (by decide +kernel) (by decide +kernel)
theorem tb_458 : Cond.selects RX0 yX0_tellPurpose yX0_tellPurpose ∈ gx_TB := gx_tb 458 (by decide +kernel) (by decide +kernel)
theorem tb_459 : Cond.code yX0_tellPurpose cX0_tellPurpose 3 (some .int) ∈ gx_TB := gx_tb 459 (by decide +kernel) (by decide +kernel)
theorem tb_460 : Cond.methodLink RL 78 yX4_donorOf ∈ gx_TB := gx_tb 460 (by decide +kernel) (by decide +kernel)
theorem tb_461 : Cond.instanceMethod yX4_donorOf ∈ gx_TB := gx_tb 461 (by decide +kernel) (by decide +kernel)
theorem tb_462 : Cond.selects RX4 yX4_donorOf yX4_donorOf ∈ gx_TB := gx_tb 462 (by decide +kernel) (by decide +kernel)
theorem tb_463 : Cond.code yX4_donorOf cX4_donorOf 3 (some .int) ∈ gx_TB := gx_tb 463 (by decide +kernel) (by decide +kernel)
theorem tb_464 : Cond.methodLink RX4 92 yX0_tellDonor ∈ gx_TB := gx_tb 464 (by decide +kernel) (by decide +kernel)
theorem tb_465 : Cond.instanceMethod yX0_tellDonor ∈ gx_TB := gx_tb 465 (by decide +kernel) (by decide +kernel)
theorem tb_466 : Cond.selects RX0 yX0_tellDonor yX0_tellDonor ∈ gx_TB := gx_tb 466 (by decide +kernel) (by decide +kernel)
theorem tb_467 : Cond.code yX0_tellDonor cX0_tellDonor 3 (some .int) ∈ gx_TB := gx_tb 467 (by decide +kernel) (by decide +kernel)
theorem tb_468 : Cond.methodLink RX0 158 yX0_amountsOf ∈ gx_TB := gx_tb 468 (by decide +kernel) (by decide +kernel)
theorem tb_470 : Cond.instanceMethod yX0_amountsOf ∈ gx_TB := gx_tb 470 (by decide +kernel) (by decide +kernel)
theorem tb_471 : Cond.code yX0_amountsOf cX0_amountsOf 6 (some .int) ∈ gx_TB := gx_tb 471 (by decide +kernel) (by decide +kernel)
theorem tb_472 : Cond.methodLink RX0 161 yX0_runningPledgesOf ∈ gx_TB := gx_tb 472 (by decide +kernel) (by decide +kernel)
theorem tb_474 : Cond.instanceMethod yX0_runningPledgesOf ∈ gx_TB := gx_tb 474 (by decide +kernel) (by decide +kernel)
theorem tb_475 : Cond.code yX0_runningPledgesOf cX0_runningPledgesOf 4 (some .int) ∈ gx_TB := gx_tb 475 (by decide +kernel) (by decide +kernel)
theorem tb_476 : Cond.methodLink RX0 164 yX0_tellConsent ∈ gx_TB := gx_tb 476 (by decide +kernel) (by decide +kernel)
theorem tb_478 : Cond.instanceMethod yX0_tellConsent ∈ gx_TB := gx_tb 478 (by decide +kernel) (by decide +kernel)
theorem tb_479 : Cond.code yX0_tellConsent cX0_tellConsent 4 (some .int) ∈ gx_TB := gx_tb 479 (by decide +kernel) (by decide +kernel)
theorem tb_480 : Cond.methodLink RL 82 yX4_giftOf ∈ gx_TB := gx_tb 480 (by decide +kernel) (by decide +kernel)
theorem tb_481 : Cond.instanceMethod yX4_giftOf ∈ gx_TB := gx_tb 481 (by decide +kernel) (by decide +kernel)
theorem tb_482 : Cond.selects RX4 yX4_giftOf yX4_giftOf ∈ gx_TB := gx_tb 482 (by decide +kernel) (by decide +kernel)
theorem tb_483 : Cond.code yX4_giftOf cX4_giftOf 3 (some .int) ∈ gx_TB := gx_tb 483 (by decide +kernel) (by decide +kernel)
theorem tb_484 : Cond.methodLink RX4 95 yX0_tellGift ∈ gx_TB := gx_tb 484 (by decide +kernel) (by decide +kernel)
theorem tb_485 : Cond.instanceMethod yX0_tellGift ∈ gx_TB := gx_tb 485 (by decide +kernel) (by decide +kernel)
theorem tb_486 : Cond.selects RX0 yX0_tellGift yX0_tellGift ∈ gx_TB := gx_tb 486 (by decide +kernel) (by decide +kernel)
theorem tb_487 : Cond.code yX0_tellGift cX0_tellGift 4 (some .int) ∈ gx_TB := gx_tb 487 (by decide +kernel) (by decide +kernel)
theorem tb_488 : Cond.methodLink RL 86 yX4_pledgeOf ∈ gx_TB := gx_tb 488 (by decide +kernel) (by decide +kernel)
theorem tb_489 : Cond.instanceMethod yX4_pledgeOf ∈ gx_TB := gx_tb 489 (by decide +kernel) (by decide +kernel)
theorem tb_490 : Cond.selects RX4 yX4_pledgeOf yX4_pledgeOf ∈ gx_TB := gx_tb 490 (by decide +kernel) (by decide +kernel)
theorem tb_491 : Cond.code yX4_pledgeOf cX4_pledgeOf 3 (some .int) ∈ gx_TB := gx_tb 491 (by decide +kernel) (by decide +kernel)
theorem tb_492 : Cond.methodLink RX4 98 yX0_tellPledge ∈ gx_TB := gx_tb 492 (by decide +kernel) (by decide +kernel)
theorem tb_493 : Cond.instanceMethod yX0_tellPledge ∈ gx_TB := gx_tb 493 (by decide +kernel) (by decide +kernel)
theorem tb_494 : Cond.selects RX0 yX0_tellPledge yX0_tellPledge ∈ gx_TB := gx_tb 494 (by decide +kernel) (by decide +kernel)
theorem tb_495 : Cond.code yX0_tellPledge cX0_tellPledge 3 (some .int) ∈ gx_TB := gx_tb 495 (by decide +kernel) (by decide +kernel)
theorem tb_496 : Cond.methodLink RL 90 yX4_count ∈ gx_TB := gx_tb 496 (by decide +kernel) (by decide +kernel)
theorem tb_497 : Cond.instanceMethod yX4_count ∈ gx_TB := gx_tb 497 (by decide +kernel) (by decide +kernel)
theorem tb_498 : Cond.selects RX4 yX4_count yX4_count ∈ gx_TB := gx_tb 498 (by decide +kernel) (by decide +kernel)
theorem tb_499 : Cond.code yX4_count cX4_count 2 (some .int) ∈ gx_TB := gx_tb 499 (by decide +kernel) (by decide +kernel)
theorem tb_500 : Cond.methodLink RX4 101 yX1_size ∈ gx_TB := gx_tb 500 (by decide +kernel) (by decide +kernel)
theorem tb_501 : Cond.instanceMethod yX1_size ∈ gx_TB := gx_tb 501 (by decide +kernel) (by decide +kernel)
theorem tb_502 : Cond.selects RX1 yX1_size yX1_size ∈ gx_TB := gx_tb 502 (by decide +kernel) (by decide +kernel)
theorem tb_503 : Cond.code yX1_size cX1_size 1 (some .int) ∈ gx_TB := gx_tb 503 (by decide +kernel) (by decide +kernel)
theorem tb_504 : Cond.methodLink RX4 104 yX2_size ∈ gx_TB := gx_tb 504 (by decide +kernel) (by decide +kernel)
theorem tb_505 : Cond.instanceMethod yX2_size ∈ gx_TB := gx_tb 505 (by decide +kernel) (by decide +kernel)
theorem tb_506 : Cond.selects RX2 yX2_size yX2_size ∈ gx_TB := gx_tb 506 (by decide +kernel) (by decide +kernel)
theorem tb_507 : Cond.code yX2_size cX2_size 1 (some .int) ∈ gx_TB := gx_tb 507 (by decide +kernel) (by decide +kernel)
theorem tb_508 : Cond.methodLink RX4 105 yX0_tellNumber ∈ gx_TB := gx_tb 508 (by decide +kernel) (by decide +kernel)
theorem tb_509 : Cond.instanceMethod yX0_tellNumber ∈ gx_TB := gx_tb 509 (by decide +kernel) (by decide +kernel)
theorem tb_510 : Cond.selects RX0 yX0_tellNumber yX0_tellNumber ∈ gx_TB := gx_tb 510 (by decide +kernel) (by decide +kernel)
theorem tb_511 : Cond.code yX0_tellNumber cX0_tellNumber 2 (some .int) ∈ gx_TB := gx_tb 511 (by decide +kernel) (by decide +kernel)
theorem tb_512 : Cond.methodLink RX0 167 yX3_sumOf ∈ gx_TB := gx_tb 512 (by decide +kernel) (by decide +kernel)
theorem tb_513 : Cond.instanceMethod yX3_sumOf ∈ gx_TB := gx_tb 513 (by decide +kernel) (by decide +kernel)
theorem tb_514 : Cond.selects RX3 yX3_sumOf yX3_sumOf ∈ gx_TB := gx_tb 514 (by decide +kernel) (by decide +kernel)
theorem tb_515 : Cond.code yX3_sumOf cX3_sumOf 4 (some .int) ∈ gx_TB := gx_tb 515 (by decide +kernel) (by decide +kernel)
theorem tb_516 : Cond.methodLink RX3 25 yX3_at ∈ gx_TB := gx_tb 516 (by decide +kernel) (by decide +kernel)
theorem tb_517 : Cond.methodLink RX0 170 yX0_closedPurposes ∈ gx_TB := gx_tb 517 (by decide +kernel) (by decide +kernel)
theorem tb_519 : Cond.instanceMethod yX0_closedPurposes ∈ gx_TB := gx_tb 519 (by decide +kernel) (by decide +kernel)
theorem tb_520 : Cond.code yX0_closedPurposes cX0_closedPurposes 3 (some .int) ∈ gx_TB := gx_tb 520 (by decide +kernel) (by decide +kernel)
theorem tb_521 : Cond.methodLink RL 94 yX4_wouldClaim ∈ gx_TB := gx_tb 521 (by decide +kernel) (by decide +kernel)
theorem tb_522 : Cond.instanceMethod yX4_wouldClaim ∈ gx_TB := gx_tb 522 (by decide +kernel) (by decide +kernel)
theorem tb_523 : Cond.selects RX4 yX4_wouldClaim yX4_wouldClaim ∈ gx_TB := gx_tb 523 (by decide +kernel) (by decide +kernel)
theorem tb_524 : Cond.code yX4_wouldClaim cX4_wouldClaim 2 (some .int) ∈ gx_TB := gx_tb 524 (by decide +kernel) (by decide +kernel)
theorem tb_525 : Cond.methodLink RX4 108 yX0_hasDonor ∈ gx_TB := gx_tb 525 (by decide +kernel) (by decide +kernel)
theorem tb_526 : Cond.instanceMethod yX0_hasDonor ∈ gx_TB := gx_tb 526 (by decide +kernel) (by decide +kernel)
theorem tb_527 : Cond.selects RX0 yX0_hasDonor yX0_hasDonor ∈ gx_TB := gx_tb 527 (by decide +kernel) (by decide +kernel)
theorem tb_528 : Cond.code yX0_hasDonor cX0_hasDonor 2 (some .boolean) ∈ gx_TB := gx_tb 528 (by decide +kernel) (by decide +kernel)
theorem tb_529 : Cond.methodLink RX4 112 yX0_copyFrom ∈ gx_TB := gx_tb 529 (by decide +kernel) (by decide +kernel)
theorem tb_530 : Cond.instanceMethod yX0_copyFrom ∈ gx_TB := gx_tb 530 (by decide +kernel) (by decide +kernel)
theorem tb_531 : Cond.selects RX0 yX0_copyFrom yX0_copyFrom ∈ gx_TB := gx_tb 531 (by decide +kernel) (by decide +kernel)
theorem tb_532 : Cond.code yX0_copyFrom cX0_copyFrom 2 none ∈ gx_TB := gx_tb 532 (by decide +kernel) (by decide +kernel)
theorem tb_533 : Cond.methodLink RX4 115 yJ9_max_7cf53 ∈ gx_TB := gx_tb 533 (by decide +kernel) (by decide +kernel)
theorem tb_534 : Cond.methodLink RL 98 yX4_consents ∈ gx_TB := gx_tb 534 (by decide +kernel) (by decide +kernel)
theorem tb_535 : Cond.instanceMethod yX4_consents ∈ gx_TB := gx_tb 535 (by decide +kernel) (by decide +kernel)
theorem tb_536 : Cond.selects RX4 yX4_consents yX4_consents ∈ gx_TB := gx_tb 536 (by decide +kernel) (by decide +kernel)
theorem tb_537 : Cond.code yX4_consents cX4_consents 3 (some .int) ∈ gx_TB := gx_tb 537 (by decide +kernel) (by decide +kernel)
theorem tb_538 : Cond.methodLink RX4 120 yX0_tellConsents ∈ gx_TB := gx_tb 538 (by decide +kernel) (by decide +kernel)
theorem tb_539 : Cond.instanceMethod yX0_tellConsents ∈ gx_TB := gx_tb 539 (by decide +kernel) (by decide +kernel)
theorem tb_540 : Cond.selects RX0 yX0_tellConsents yX0_tellConsents ∈ gx_TB := gx_tb 540 (by decide +kernel) (by decide +kernel)
theorem tb_541 : Cond.code yX0_tellConsents cX0_tellConsents 4 (some .int) ∈ gx_TB := gx_tb 541 (by decide +kernel) (by decide +kernel)
theorem tb_542 : Cond.methodLink RL 102 yX4_later ∈ gx_TB := gx_tb 542 (by decide +kernel) (by decide +kernel)
theorem tb_543 : Cond.instanceMethod yX4_later ∈ gx_TB := gx_tb 543 (by decide +kernel) (by decide +kernel)
theorem tb_544 : Cond.selects RX4 yX4_later yX4_later ∈ gx_TB := gx_tb 544 (by decide +kernel) (by decide +kernel)
theorem tb_545 : Cond.code yX4_later cX4_later 3 (some .int) ∈ gx_TB := gx_tb 545 (by decide +kernel) (by decide +kernel)
theorem tb_546 : Cond.methodLink RX4 123 yX0_hasPurpose ∈ gx_TB := gx_tb 546 (by decide +kernel) (by decide +kernel)
theorem tb_547 : Cond.instanceMethod yX0_hasPurpose ∈ gx_TB := gx_tb 547 (by decide +kernel) (by decide +kernel)
theorem tb_548 : Cond.selects RX0 yX0_hasPurpose yX0_hasPurpose ∈ gx_TB := gx_tb 548 (by decide +kernel) (by decide +kernel)
theorem tb_549 : Cond.code yX0_hasPurpose cX0_hasPurpose 2 (some .boolean) ∈ gx_TB := gx_tb 549 (by decide +kernel) (by decide +kernel)
theorem tb_550 : Cond.methodLink RX4 126 yX0_isSpan ∈ gx_TB := gx_tb 550 (by decide +kernel) (by decide +kernel)
theorem tb_551 : Cond.methodLink RX4 129 yX0_isClosed ∈ gx_TB := gx_tb 551 (by decide +kernel) (by decide +kernel)
theorem tb_552 : Cond.methodLink RX4 132 yX0_fundOf ∈ gx_TB := gx_tb 552 (by decide +kernel) (by decide +kernel)
theorem tb_553 : Cond.methodLink RL 106 yX4_undo ∈ gx_TB := gx_tb 553 (by decide +kernel) (by decide +kernel)
theorem tb_554 : Cond.instanceMethod yX4_undo ∈ gx_TB := gx_tb 554 (by decide +kernel) (by decide +kernel)
theorem tb_555 : Cond.selects RX4 yX4_undo yX4_undo ∈ gx_TB := gx_tb 555 (by decide +kernel) (by decide +kernel)
theorem tb_556 : Cond.code yX4_undo cX4_undo 1 (some .int) ∈ gx_TB := gx_tb 556 (by decide +kernel) (by decide +kernel)
theorem tb_557 : Cond.methodLink RX4 135 yX1_restoreLatest ∈ gx_TB := gx_tb 557 (by decide +kernel) (by decide +kernel)
theorem tb_558 : Cond.instanceMethod yX1_restoreLatest ∈ gx_TB := gx_tb 558 (by decide +kernel) (by decide +kernel)
theorem tb_559 : Cond.selects RX1 yX1_restoreLatest yX1_restoreLatest ∈ gx_TB := gx_tb 559 (by decide +kernel) (by decide +kernel)
theorem tb_560 : Cond.code yX1_restoreLatest cX1_restoreLatest 2 (some .int) ∈ gx_TB := gx_tb 560 (by decide +kernel) (by decide +kernel)
theorem tb_561 : Cond.methodLink RX1 29 yX0_loadFrom ∈ gx_TB := gx_tb 561 (by decide +kernel) (by decide +kernel)
theorem tb_562 : Cond.instanceMethod yX0_loadFrom ∈ gx_TB := gx_tb 562 (by decide +kernel) (by decide +kernel)
theorem tb_563 : Cond.selects RX0 yX0_loadFrom yX0_loadFrom ∈ gx_TB := gx_tb 563 (by decide +kernel) (by decide +kernel)
theorem tb_564 : Cond.code yX0_loadFrom cX0_loadFrom 2 none ∈ gx_TB := gx_tb 564 (by decide +kernel) (by decide +kernel)
theorem tb_565 : Cond.methodLink RL 110 yX4_type ∈ gx_TB := gx_tb 565 (by decide +kernel) (by decide +kernel)
theorem tb_566 : Cond.instanceMethod yX4_type ∈ gx_TB := gx_tb 566 (by decide +kernel) (by decide +kernel)
theorem tb_567 : Cond.selects RX4 yX4_type yX4_type ∈ gx_TB := gx_tb 567 (by decide +kernel) (by decide +kernel)
theorem tb_568 : Cond.code yX4_type cX4_type 2 (some .int) ∈ gx_TB := gx_tb 568 (by decide +kernel) (by decide +kernel)
theorem tb_569 : Cond.methodLink RX4 139 yX2_append ∈ gx_TB := gx_tb 569 (by decide +kernel) (by decide +kernel)
theorem tb_570 : Cond.instanceMethod yX2_append ∈ gx_TB := gx_tb 570 (by decide +kernel) (by decide +kernel)
theorem tb_571 : Cond.selects RX2 yX2_append yX2_append ∈ gx_TB := gx_tb 571 (by decide +kernel) (by decide +kernel)
theorem tb_572 : Cond.code yX2_append cX2_append 2 (some .int) ∈ gx_TB := gx_tb 572 (by decide +kernel) (by decide +kernel)
theorem tb_574 : Cond.methodLink RL 114 yX4_clearText ∈ gx_TB := gx_tb 574 (by decide +kernel) (by decide +kernel)
theorem tb_575 : Cond.instanceMethod yX4_clearText ∈ gx_TB := gx_tb 575 (by decide +kernel) (by decide +kernel)
theorem tb_576 : Cond.selects RX4 yX4_clearText yX4_clearText ∈ gx_TB := gx_tb 576 (by decide +kernel) (by decide +kernel)
theorem tb_577 : Cond.code yX4_clearText cX4_clearText 1 (some .int) ∈ gx_TB := gx_tb 577 (by decide +kernel) (by decide +kernel)
theorem tb_578 : Cond.methodLink RX4 142 yX2_empty ∈ gx_TB := gx_tb 578 (by decide +kernel) (by decide +kernel)
theorem tb_579 : Cond.instanceMethod yX2_empty ∈ gx_TB := gx_tb 579 (by decide +kernel) (by decide +kernel)
theorem tb_580 : Cond.selects RX2 yX2_empty yX2_empty ∈ gx_TB := gx_tb 580 (by decide +kernel) (by decide +kernel)
theorem tb_581 : Cond.code yX2_empty cX2_empty 2 (some .int) ∈ gx_TB := gx_tb 581 (by decide +kernel) (by decide +kernel)
theorem tb_582 : Cond.methodLink RL 118 yX4_fault ∈ gx_TB := gx_tb 582 (by decide +kernel) (by decide +kernel)
theorem tb_583 : Cond.instanceMethod yX4_fault ∈ gx_TB := gx_tb 583 (by decide +kernel) (by decide +kernel)
theorem tb_584 : Cond.selects RX4 yX4_fault yX4_fault ∈ gx_TB := gx_tb 584 (by decide +kernel) (by decide +kernel)
theorem tb_585 : Cond.code yX4_fault cX4_fault 2 (some .int) ∈ gx_TB := gx_tb 585 (by decide +kernel) (by decide +kernel)
theorem tb_586 : Cond.methodLink RX4 145 yX4_within ∈ gx_TB := gx_tb 586 (by decide +kernel) (by decide +kernel)
theorem tb_587 : Cond.methodLink RX4 149 yX2_runOn ∈ gx_TB := gx_tb 587 (by decide +kernel) (by decide +kernel)
theorem tb_588 : Cond.instanceMethod yX2_runOn ∈ gx_TB := gx_tb 588 (by decide +kernel) (by decide +kernel)
theorem tb_589 : Cond.selects RX2 yX2_runOn yX2_runOn ∈ gx_TB := gx_tb 589 (by decide +kernel) (by decide +kernel)
theorem tb_590 : Cond.code yX2_runOn cX2_runOn 5 (some .int) ∈ gx_TB := gx_tb 590 (by decide +kernel) (by decide +kernel)
theorem tb_591 : Cond.methodLink RX2 39 yX2_readCommand ∈ gx_TB := gx_tb 591 (by decide +kernel) (by decide +kernel)
theorem tb_593 : Cond.instanceMethod yX2_readCommand ∈ gx_TB := gx_tb 593 (by decide +kernel) (by decide +kernel)
theorem tb_594 : Cond.code yX2_readCommand cX2_readCommand 4 (some .int) ∈ gx_TB := gx_tb 594 (by decide +kernel) (by decide +kernel)
theorem tb_595 : Cond.methodLink RX2 51 yX2_readKind ∈ gx_TB := gx_tb 595 (by decide +kernel) (by decide +kernel)
theorem tb_597 : Cond.instanceMethod yX2_readKind ∈ gx_TB := gx_tb 597 (by decide +kernel) (by decide +kernel)
theorem tb_598 : Cond.code yX2_readKind cX2_readKind 3 (some .int) ∈ gx_TB := gx_tb 598 (by decide +kernel) (by decide +kernel)
theorem tb_599 : Cond.methodLink RX2 66 yX2_wordOf ∈ gx_TB := gx_tb 599 (by decide +kernel) (by decide +kernel)
theorem tb_600 : Cond.static yX2_wordOf ∈ gx_TB := gx_tb 600 (by decide +kernel) (by decide +kernel)
theorem tb_601 : Cond.code yX2_wordOf cX2_wordOf 1 (some (.object "java/lang/String")) ∈ gx_TB := gx_tb 601 (by decide +kernel) (by decide +kernel)
theorem tb_611 : Cond.methodLink RX2 70 yX2_standsNext ∈ gx_TB := gx_tb 611 (by decide +kernel) (by decide +kernel)
theorem tb_613 : Cond.instanceMethod yX2_standsNext ∈ gx_TB := gx_tb 613 (by decide +kernel) (by decide +kernel)
theorem tb_614 : Cond.code yX2_standsNext cX2_standsNext 3 (some .boolean) ∈ gx_TB := gx_tb 614 (by decide +kernel) (by decide +kernel)
theorem tb_615 : Cond.methodLink RX2 74 yJ0_length_8abf5 ∈ gx_TB := gx_tb 615 (by decide +kernel) (by decide +kernel)
theorem tb_616 : Cond.instanceMethod yJ0_length_8abf5 ∈ gx_TB := gx_tb 616 (by decide +kernel) (by decide +kernel)
theorem tb_617 : Cond.selects RJ0 yJ0_length_8abf5 yJ0_length_8abf5 ∈ gx_TB := gx_tb 617 (by decide +kernel) (by decide +kernel)
theorem tb_618 : Cond.code yJ0_length_8abf5 cJ0_length_8abf5 1 (some .int) ∈ gx_TB := gx_tb 618 (by decide +kernel) (by decide +kernel)
theorem tb_619 : Cond.methodLink RJ0 335 yJ0_coder_7d493 ∈ gx_TB := gx_tb 619 (by decide +kernel) (by decide +kernel)
theorem tb_620 : Cond.instanceMethod yJ0_coder_7d493 ∈ gx_TB := gx_tb 620 (by decide +kernel) (by decide +kernel)
theorem tb_621 : Cond.selects RJ0 yJ0_coder_7d493 yJ0_coder_7d493 ∈ gx_TB := gx_tb 621 (by decide +kernel) (by decide +kernel)
theorem tb_622 : Cond.code yJ0_coder_7d493 cJ0_coder_7d493 1 (some .byte) ∈ gx_TB := gx_tb 622 (by decide +kernel) (by decide +kernel)
theorem tb_623 : Cond.fieldLink RJ0 38 "java/lang/String" "COMPACT_STRINGS" "Z" ∈ gx_TB := gx_tb 623 (by decide +kernel) (by decide +kernel)
theorem tb_625 : Cond.methodLink RX2 78 yX2_signAt ∈ gx_TB := gx_tb 625 (by decide +kernel) (by decide +kernel)
theorem tb_627 : Cond.instanceMethod yX2_signAt ∈ gx_TB := gx_tb 627 (by decide +kernel) (by decide +kernel)
theorem tb_628 : Cond.code yX2_signAt cX2_signAt 2 (some .char) ∈ gx_TB := gx_tb 628 (by decide +kernel) (by decide +kernel)
theorem tb_629 : Cond.methodLink RX2 85 yJ9_min_7cf53 ∈ gx_TB := gx_tb 629 (by decide +kernel) (by decide +kernel)
theorem tb_630 : Cond.static yJ9_min_7cf53 ∈ gx_TB := gx_tb 630 (by decide +kernel) (by decide +kernel)
theorem tb_631 : Cond.code yJ9_min_7cf53 cJ9_min_7cf53 2 (some .int) ∈ gx_TB := gx_tb 631 (by decide +kernel) (by decide +kernel)
theorem tb_632 : Cond.methodLink RX2 82 yJ0_charAt_5068e ∈ gx_TB := gx_tb 632 (by decide +kernel) (by decide +kernel)
theorem tb_633 : Cond.instanceMethod yJ0_charAt_5068e ∈ gx_TB := gx_tb 633 (by decide +kernel) (by decide +kernel)
theorem tb_634 : Cond.selects RJ0 yJ0_charAt_5068e yJ0_charAt_5068e ∈ gx_TB := gx_tb 634 (by decide +kernel) (by decide +kernel)
theorem tb_635 : Cond.code yJ0_charAt_5068e cJ0_charAt_5068e 2 (some .char) ∈ gx_TB := gx_tb 635 (by decide +kernel) (by decide +kernel)
theorem tb_636 : Cond.methodLink RJ0 492 yJ0_isLatin1_aae02 ∈ gx_TB := gx_tb 636 (by decide +kernel) (by decide +kernel)
theorem tb_637 : Cond.instanceMethod yJ0_isLatin1_aae02 ∈ gx_TB := gx_tb 637 (by decide +kernel) (by decide +kernel)
theorem tb_638 : Cond.selects RJ0 yJ0_isLatin1_aae02 yJ0_isLatin1_aae02 ∈ gx_TB := gx_tb 638 (by decide +kernel) (by decide +kernel)
theorem tb_639 : Cond.code yJ0_isLatin1_aae02 cJ0_isLatin1_aae02 1 (some .boolean) ∈ gx_TB := gx_tb 639 (by decide +kernel) (by decide +kernel)
theorem tb_640 : Cond.methodLink RJ0 495 yJ1_charAt_3b067 ∈ gx_TB := gx_tb 640 (by decide +kernel) (by decide +kernel)
theorem tb_641 : Cond.static yJ1_charAt_3b067 ∈ gx_TB := gx_tb 641 (by decide +kernel) (by decide +kernel)
theorem tb_642 : Cond.code yJ1_charAt_3b067 cJ1_charAt_3b067 2 (some .char) ∈ gx_TB := gx_tb 642 (by decide +kernel) (by decide +kernel)
theorem tb_643 : Cond.methodLink RJ1 9 yJ0_checkIndex_df160 ∈ gx_TB := gx_tb 643 (by decide +kernel) (by decide +kernel)
theorem tb_644 : Cond.static yJ0_checkIndex_df160 ∈ gx_TB := gx_tb 644 (by decide +kernel) (by decide +kernel)
theorem tb_645 : Cond.code yJ0_checkIndex_df160 cJ0_checkIndex_df160 2 none ∈ gx_TB := gx_tb 645 (by decide +kernel) (by decide +kernel)
theorem tb_646 : Cond.fieldLink RJ0 1053 "jdk/internal/util/Preconditions" "SIOOBE_FORMATTER" "Ljava/util/function/BiFunction;" ∈ gx_TB := gx_tb 646 (by decide +kernel) (by decide +kernel)
theorem tb_648 : Cond.methodLink RJ0 1059 yJ3_checkIndex_8e157 ∈ gx_TB := gx_tb 648 (by decide +kernel) (by decide +kernel)
theorem tb_649 : Cond.static yJ3_checkIndex_8e157 ∈ gx_TB := gx_tb 649 (by decide +kernel) (by decide +kernel)
theorem tb_650 : Cond.code yJ3_checkIndex_8e157 cJ3_checkIndex_8e157 3 (some .int) ∈ gx_TB := gx_tb 650 (by decide +kernel) (by decide +kernel)
theorem tb_651 : Cond.methodLink RJ0 498 yJ2_charAt_3b067 ∈ gx_TB := gx_tb 651 (by decide +kernel) (by decide +kernel)
theorem tb_652 : Cond.static yJ2_charAt_3b067 ∈ gx_TB := gx_tb 652 (by decide +kernel) (by decide +kernel)
theorem tb_653 : Cond.code yJ2_charAt_3b067 cJ2_charAt_3b067 2 (some .char) ∈ gx_TB := gx_tb 653 (by decide +kernel) (by decide +kernel)
theorem tb_654 : Cond.methodLink RJ2 67 yJ2_checkIndex_2214a ∈ gx_TB := gx_tb 654 (by decide +kernel) (by decide +kernel)
theorem tb_655 : Cond.static yJ2_checkIndex_2214a ∈ gx_TB := gx_tb 655 (by decide +kernel) (by decide +kernel)
theorem tb_656 : Cond.code yJ2_checkIndex_2214a cJ2_checkIndex_2214a 2 none ∈ gx_TB := gx_tb 656 (by decide +kernel) (by decide +kernel)
theorem tb_657 : Cond.methodLink RJ2 48 yJ2_length_9d52b ∈ gx_TB := gx_tb 657 (by decide +kernel) (by decide +kernel)
theorem tb_658 : Cond.static yJ2_length_9d52b ∈ gx_TB := gx_tb 658 (by decide +kernel) (by decide +kernel)
theorem tb_659 : Cond.code yJ2_length_9d52b cJ2_length_9d52b 1 (some .int) ∈ gx_TB := gx_tb 659 (by decide +kernel) (by decide +kernel)
theorem tb_660 : Cond.methodLink RJ2 414 yJ0_checkIndex_df160 ∈ gx_TB := gx_tb 660 (by decide +kernel) (by decide +kernel)
theorem tb_661 : Cond.methodLink RJ2 71 yJ2_getChar_3b067 ∈ gx_TB := gx_tb 661 (by decide +kernel) (by decide +kernel)
theorem tb_662 : Cond.static yJ2_getChar_3b067 ∈ gx_TB := gx_tb 662 (by decide +kernel) (by decide +kernel)
theorem tb_663 : Cond.code yJ2_getChar_3b067 cJ2_getChar_3b067 2 (some .char) ∈ gx_TB := gx_tb 663 (by decide +kernel) (by decide +kernel)
theorem tb_664 : Cond.fieldLink RJ2 44 "java/lang/StringUTF16" "$assertionsDisabled" "Z" ∈ gx_TB := gx_tb 664 (by decide +kernel) (by decide +kernel)
theorem tb_666 : Cond.fieldLink RJ2 59 "java/lang/StringUTF16" "HI_BYTE_SHIFT" "I" ∈ gx_TB := gx_tb 666 (by decide +kernel) (by decide +kernel)
theorem tb_668 : Cond.fieldLink RJ2 63 "java/lang/StringUTF16" "LO_BYTE_SHIFT" "I" ∈ gx_TB := gx_tb 668 (by decide +kernel) (by decide +kernel)
theorem tb_670 : Cond.methodLink RX2 54 yX2_numbersOf ∈ gx_TB := gx_tb 670 (by decide +kernel) (by decide +kernel)
theorem tb_671 : Cond.static yX2_numbersOf ∈ gx_TB := gx_tb 671 (by decide +kernel) (by decide +kernel)
theorem tb_672 : Cond.code yX2_numbersOf cX2_numbersOf 1 (some .int) ∈ gx_TB := gx_tb 672 (by decide +kernel) (by decide +kernel)
theorem tb_673 : Cond.methodLink RX2 58 yX2_readSign ∈ gx_TB := gx_tb 673 (by decide +kernel) (by decide +kernel)
theorem tb_675 : Cond.instanceMethod yX2_readSign ∈ gx_TB := gx_tb 675 (by decide +kernel) (by decide +kernel)
theorem tb_676 : Cond.code yX2_readSign cX2_readSign 2 (some .boolean) ∈ gx_TB := gx_tb 676 (by decide +kernel) (by decide +kernel)
theorem tb_677 : Cond.methodLink RX2 62 yX2_readNumber ∈ gx_TB := gx_tb 677 (by decide +kernel) (by decide +kernel)
theorem tb_679 : Cond.instanceMethod yX2_readNumber ∈ gx_TB := gx_tb 679 (by decide +kernel) (by decide +kernel)
theorem tb_680 : Cond.code yX2_readNumber cX2_readNumber 4 (some .boolean) ∈ gx_TB := gx_tb 680 (by decide +kernel) (by decide +kernel)
theorem tb_681 : Cond.methodLink RX2 43 yX2_fail ∈ gx_TB := gx_tb 681 (by decide +kernel) (by decide +kernel)
theorem tb_683 : Cond.instanceMethod yX2_fail ∈ gx_TB := gx_tb 683 (by decide +kernel) (by decide +kernel)
theorem tb_684 : Cond.code yX2_fail cX2_fail 3 (some .int) ∈ gx_TB := gx_tb 684 (by decide +kernel) (by decide +kernel)
theorem tb_685 : Cond.methodLink RX2 47 yX2_perform ∈ gx_TB := gx_tb 685 (by decide +kernel) (by decide +kernel)
theorem tb_687 : Cond.instanceMethod yX2_perform ∈ gx_TB := gx_tb 687 (by decide +kernel) (by decide +kernel)
theorem tb_688 : Cond.code yX2_perform cX2_perform 3 (some .int) ∈ gx_TB := gx_tb 688 (by decide +kernel) (by decide +kernel)
theorem tb_689 : Cond.methodLink RX2 90 yX0_addGift ∈ gx_TB := gx_tb 689 (by decide +kernel) (by decide +kernel)
theorem tb_690 : Cond.methodLink RX2 96 yX0_addPledge ∈ gx_TB := gx_tb 690 (by decide +kernel) (by decide +kernel)
theorem tb_691 : Cond.methodLink RX2 100 yX0_tellMiss ∈ gx_TB := gx_tb 691 (by decide +kernel) (by decide +kernel)
theorem tb_692 : Cond.methodLink RX2 103 yX0_claimGifts ∈ gx_TB := gx_tb 692 (by decide +kernel) (by decide +kernel)
theorem tb_693 : Cond.methodLink RX2 106 yX0_spendOn ∈ gx_TB := gx_tb 693 (by decide +kernel) (by decide +kernel)
theorem tb_694 : Cond.methodLink RX2 109 yX0_consentTo ∈ gx_TB := gx_tb 694 (by decide +kernel) (by decide +kernel)
theorem tb_695 : Cond.methodLink RX2 112 yX0_mergePurpose ∈ gx_TB := gx_tb 695 (by decide +kernel) (by decide +kernel)
theorem tb_696 : Cond.methodLink RX2 115 yX0_refundGift ∈ gx_TB := gx_tb 696 (by decide +kernel) (by decide +kernel)
theorem tb_697 : Cond.methodLink RX2 118 yX0_passMonths ∈ gx_TB := gx_tb 697 (by decide +kernel) (by decide +kernel)
theorem tb_698 : Cond.methodLink RX4 152 yX2_tellFault ∈ gx_TB := gx_tb 698 (by decide +kernel) (by decide +kernel)
theorem tb_699 : Cond.instanceMethod yX2_tellFault ∈ gx_TB := gx_tb 699 (by decide +kernel) (by decide +kernel)
theorem tb_700 : Cond.selects RX2 yX2_tellFault yX2_tellFault ∈ gx_TB := gx_tb 700 (by decide +kernel) (by decide +kernel)
theorem tb_701 : Cond.code yX2_tellFault cX2_tellFault 2 (some .int) ∈ gx_TB := gx_tb 701 (by decide +kernel) (by decide +kernel)
theorem tb_702 : Cond.arrayClass .byte ∈ gx_TB := gx_tb 702 (by decide +kernel) (by decide +kernel)
theorem tb_703 : Cond.methodLink RL 122 yX4_play ∈ gx_TB := gx_tb 703 (by decide +kernel) (by decide +kernel)
theorem tb_704 : Cond.instanceMethod yX4_play ∈ gx_TB := gx_tb 704 (by decide +kernel) (by decide +kernel)
theorem tb_705 : Cond.selects RX4 yX4_play yX4_play ∈ gx_TB := gx_tb 705 (by decide +kernel) (by decide +kernel)
theorem tb_706 : Cond.code yX4_play cX4_play 2 (some .int) ∈ gx_TB := gx_tb 706 (by decide +kernel) (by decide +kernel)
theorem tb_707 : Cond.classLink RL 10 RX5 ∈ gx_TB := gx_tb 707 (by decide +kernel) (by decide +kernel)
theorem tb_708 : Cond.instantiable RX5 15 ∈ gx_TB := gx_tb 708 (by decide +kernel) (by decide +kernel)
theorem tb_709 : Cond.methodLink RL 12 yX5_init ∈ gx_TB := gx_tb 709 (by decide +kernel) (by decide +kernel)
theorem tb_710 : Cond.instanceMethod yX5_init ∈ gx_TB := gx_tb 710 (by decide +kernel) (by decide +kernel)
theorem tb_711 : Cond.code yX5_init cX5_init 1 none ∈ gx_TB := gx_tb 711 (by decide +kernel) (by decide +kernel)
theorem tb_712 : Cond.methodLink RX5 1 objectInit ∈ gx_TB := gx_tb 712 (by decide +kernel) (by decide +kernel)
theorem tb_713 : Cond.methodLink RX5 35 yX5_putsPurpose ∈ gx_TB := gx_tb 713 (by decide +kernel) (by decide +kernel)
theorem tb_715 : Cond.instanceMethod yX5_putsPurpose ∈ gx_TB := gx_tb 715 (by decide +kernel) (by decide +kernel)
theorem tb_716 : Cond.code yX5_putsPurpose cX5_putsPurpose 4 none ∈ gx_TB := gx_tb 716 (by decide +kernel) (by decide +kernel)
theorem tb_717 : Cond.constantLong RX5 39 (1734964837) ∈ gx_TB := gx_tb 717 (by decide +kernel) (by decide +kernel)
theorem tb_718 : Cond.constantLong RX5 41 (123610859857765) ∈ gx_TB := gx_tb 718 (by decide +kernel) (by decide +kernel)
theorem tb_719 : Cond.constantLong RX5 43 (1835627379) ∈ gx_TB := gx_tb 719 (by decide +kernel) (by decide +kernel)
theorem tb_720 : Cond.constantLong RX5 45 (427020085613) ∈ gx_TB := gx_tb 720 (by decide +kernel) (by decide +kernel)
theorem tb_721 : Cond.constantLong RX5 47 (495806934628) ∈ gx_TB := gx_tb 721 (by decide +kernel) (by decide +kernel)
theorem tb_722 : Cond.constantLong RX5 49 (418347378021) ∈ gx_TB := gx_tb 722 (by decide +kernel) (by decide +kernel)
theorem tb_723 : Cond.constantLong RX5 51 (469853431653) ∈ gx_TB := gx_tb 723 (by decide +kernel) (by decide +kernel)
theorem tb_724 : Cond.constantLong RX5 53 (125779836235364) ∈ gx_TB := gx_tb 724 (by decide +kernel) (by decide +kernel)
theorem tb_725 : Cond.constantLong RX5 55 (1885434739) ∈ gx_TB := gx_tb 725 (by decide +kernel) (by decide +kernel)
theorem tb_726 : Cond.fieldLink RX5 7 "GiftPurposesModel" "s" "[I" ∈ gx_TB := gx_tb 726 (by decide +kernel) (by decide +kernel)
theorem tb_727 : Cond.fieldLink RX5 13 "GiftPurposesModel" "past" "[I" ∈ gx_TB := gx_tb 727 (by decide +kernel) (by decide +kernel)
theorem tb_728 : Cond.fieldLink RX5 16 "GiftPurposesModel" "held" "[I" ∈ gx_TB := gx_tb 728 (by decide +kernel) (by decide +kernel)
theorem tb_729 : Cond.fieldLink RX5 19 "GiftPurposesModel" "tried" "[I" ∈ gx_TB := gx_tb 729 (by decide +kernel) (by decide +kernel)
theorem tb_730 : Cond.fieldLink RX5 61 "GiftPurposesModel" "pasts" "I" ∈ gx_TB := gx_tb 730 (by decide +kernel) (by decide +kernel)
theorem tb_731 : Cond.fieldLink RX5 57 "GiftPurposesModel" "runs" "Z" ∈ gx_TB := gx_tb 731 (by decide +kernel) (by decide +kernel)
theorem tb_732 : Cond.fieldLink RX5 22 "GiftPurposesModel" "text" "[I" ∈ gx_TB := gx_tb 732 (by decide +kernel) (by decide +kernel)
theorem tb_733 : Cond.fieldLink RX5 161 "GiftPurposesModel" "typed" "I" ∈ gx_TB := gx_tb 733 (by decide +kernel) (by decide +kernel)
theorem tb_734 : Cond.fieldLink RX5 25 "GiftPurposesModel" "words" "[J" ∈ gx_TB := gx_tb 734 (by decide +kernel) (by decide +kernel)
theorem tb_735 : Cond.fieldLink RX5 29 "GiftPurposesModel" "numbers" "[I" ∈ gx_TB := gx_tb 735 (by decide +kernel) (by decide +kernel)
theorem tb_736 : Cond.fieldLink RX5 115 "GiftPurposesModel" "claimed" "I" ∈ gx_TB := gx_tb 736 (by decide +kernel) (by decide +kernel)
theorem tb_737 : Cond.fieldLink RX5 164 "GiftPurposesModel" "spot" "I" ∈ gx_TB := gx_tb 737 (by decide +kernel) (by decide +kernel)
theorem tb_738 : Cond.fieldLink RX5 219 "GiftPurposesModel" "cause" "I" ∈ gx_TB := gx_tb 738 (by decide +kernel) (by decide +kernel)
theorem tb_739 : Cond.fieldLink RX5 210 "GiftPurposesModel" "commands" "I" ∈ gx_TB := gx_tb 739 (by decide +kernel) (by decide +kernel)
theorem tb_740 : Cond.fieldLink RX5 32 "GiftPurposesModel" "told" "[I" ∈ gx_TB := gx_tb 740 (by decide +kernel) (by decide +kernel)
theorem tb_772 : Cond.arrayClass .long ∈ gx_TB := gx_tb 772 (by decide +kernel) (by decide +kernel)
theorem tb_773 : Cond.methodLink RL 17 yX5_purpose ∈ gx_TB := gx_tb 773 (by decide +kernel) (by decide +kernel)
theorem tb_774 : Cond.instanceMethod yX5_purpose ∈ gx_TB := gx_tb 774 (by decide +kernel) (by decide +kernel)
theorem tb_775 : Cond.selects RX5 yX5_purpose yX5_purpose ∈ gx_TB := gx_tb 775 (by decide +kernel) (by decide +kernel)
theorem tb_776 : Cond.code yX5_purpose cX5_purpose 3 (some .int) ∈ gx_TB := gx_tb 776 (by decide +kernel) (by decide +kernel)
theorem tb_777 : Cond.methodLink RX5 73 yX5_changes ∈ gx_TB := gx_tb 777 (by decide +kernel) (by decide +kernel)
theorem tb_779 : Cond.instanceMethod yX5_changes ∈ gx_TB := gx_tb 779 (by decide +kernel) (by decide +kernel)
theorem tb_780 : Cond.code yX5_changes cX5_changes 2 none ∈ gx_TB := gx_tb 780 (by decide +kernel) (by decide +kernel)
theorem tb_781 : Cond.methodLink RX5 76 yX5_putsDonor ∈ gx_TB := gx_tb 781 (by decide +kernel) (by decide +kernel)
theorem tb_783 : Cond.instanceMethod yX5_putsDonor ∈ gx_TB := gx_tb 783 (by decide +kernel) (by decide +kernel)
theorem tb_784 : Cond.code yX5_putsDonor cX5_putsDonor 4 none ∈ gx_TB := gx_tb 784 (by decide +kernel) (by decide +kernel)
theorem tb_785 : Cond.methodLink RL 21 yX5_donor ∈ gx_TB := gx_tb 785 (by decide +kernel) (by decide +kernel)
theorem tb_786 : Cond.instanceMethod yX5_donor ∈ gx_TB := gx_tb 786 (by decide +kernel) (by decide +kernel)
theorem tb_787 : Cond.selects RX5 yX5_donor yX5_donor ∈ gx_TB := gx_tb 787 (by decide +kernel) (by decide +kernel)
theorem tb_788 : Cond.code yX5_donor cX5_donor 3 (some .int) ∈ gx_TB := gx_tb 788 (by decide +kernel) (by decide +kernel)
theorem tb_789 : Cond.methodLink RL 26 yX5_declare ∈ gx_TB := gx_tb 789 (by decide +kernel) (by decide +kernel)
theorem tb_790 : Cond.instanceMethod yX5_declare ∈ gx_TB := gx_tb 790 (by decide +kernel) (by decide +kernel)
theorem tb_791 : Cond.selects RX5 yX5_declare yX5_declare ∈ gx_TB := gx_tb 791 (by decide +kernel) (by decide +kernel)
theorem tb_792 : Cond.code yX5_declare cX5_declare 4 (some .int) ∈ gx_TB := gx_tb 792 (by decide +kernel) (by decide +kernel)
theorem tb_793 : Cond.methodLink RX5 79 yX5_isDonor ∈ gx_TB := gx_tb 793 (by decide +kernel) (by decide +kernel)
theorem tb_795 : Cond.instanceMethod yX5_isDonor ∈ gx_TB := gx_tb 795 (by decide +kernel) (by decide +kernel)
theorem tb_796 : Cond.code yX5_isDonor cX5_isDonor 2 (some .boolean) ∈ gx_TB := gx_tb 796 (by decide +kernel) (by decide +kernel)
theorem tb_797 : Cond.methodLink RX5 82 yX5_in ∈ gx_TB := gx_tb 797 (by decide +kernel) (by decide +kernel)
theorem tb_798 : Cond.static yX5_in ∈ gx_TB := gx_tb 798 (by decide +kernel) (by decide +kernel)
theorem tb_799 : Cond.code yX5_in cX5_in 3 (some .boolean) ∈ gx_TB := gx_tb 799 (by decide +kernel) (by decide +kernel)
theorem tb_800 : Cond.methodLink RX5 86 yX5_ofDonor ∈ gx_TB := gx_tb 800 (by decide +kernel) (by decide +kernel)
theorem tb_802 : Cond.instanceMethod yX5_ofDonor ∈ gx_TB := gx_tb 802 (by decide +kernel) (by decide +kernel)
theorem tb_803 : Cond.code yX5_ofDonor cX5_ofDonor 3 (some .int) ∈ gx_TB := gx_tb 803 (by decide +kernel) (by decide +kernel)
theorem tb_804 : Cond.methodLink RL 31 yX5_give ∈ gx_TB := gx_tb 804 (by decide +kernel) (by decide +kernel)
theorem tb_805 : Cond.instanceMethod yX5_give ∈ gx_TB := gx_tb 805 (by decide +kernel) (by decide +kernel)
theorem tb_806 : Cond.selects RX5 yX5_give yX5_give ∈ gx_TB := gx_tb 806 (by decide +kernel) (by decide +kernel)
theorem tb_807 : Cond.code yX5_give cX5_give 4 (some .int) ∈ gx_TB := gx_tb 807 (by decide +kernel) (by decide +kernel)
theorem tb_808 : Cond.methodLink RX5 92 yX5_isPurpose ∈ gx_TB := gx_tb 808 (by decide +kernel) (by decide +kernel)
theorem tb_810 : Cond.instanceMethod yX5_isPurpose ∈ gx_TB := gx_tb 810 (by decide +kernel) (by decide +kernel)
theorem tb_811 : Cond.code yX5_isPurpose cX5_isPurpose 2 (some .boolean) ∈ gx_TB := gx_tb 811 (by decide +kernel) (by decide +kernel)
theorem tb_812 : Cond.methodLink RX5 69 yX5_isClosed ∈ gx_TB := gx_tb 812 (by decide +kernel) (by decide +kernel)
theorem tb_814 : Cond.instanceMethod yX5_isClosed ∈ gx_TB := gx_tb 814 (by decide +kernel) (by decide +kernel)
theorem tb_815 : Cond.code yX5_isClosed cX5_isClosed 2 (some .boolean) ∈ gx_TB := gx_tb 815 (by decide +kernel) (by decide +kernel)
theorem tb_816 : Cond.methodLink RX5 65 yX5_ofPurpose ∈ gx_TB := gx_tb 816 (by decide +kernel) (by decide +kernel)
theorem tb_818 : Cond.instanceMethod yX5_ofPurpose ∈ gx_TB := gx_tb 818 (by decide +kernel) (by decide +kernel)
theorem tb_819 : Cond.code yX5_ofPurpose cX5_ofPurpose 3 (some .int) ∈ gx_TB := gx_tb 819 (by decide +kernel) (by decide +kernel)
theorem tb_820 : Cond.methodLink RX5 95 yX5_gives ∈ gx_TB := gx_tb 820 (by decide +kernel) (by decide +kernel)
theorem tb_822 : Cond.instanceMethod yX5_gives ∈ gx_TB := gx_tb 822 (by decide +kernel) (by decide +kernel)
theorem tb_823 : Cond.code yX5_gives cX5_gives 7 (some .int) ∈ gx_TB := gx_tb 823 (by decide +kernel) (by decide +kernel)
theorem tb_824 : Cond.methodLink RX5 89 yX5_adds ∈ gx_TB := gx_tb 824 (by decide +kernel) (by decide +kernel)
theorem tb_826 : Cond.instanceMethod yX5_adds ∈ gx_TB := gx_tb 826 (by decide +kernel) (by decide +kernel)
theorem tb_827 : Cond.code yX5_adds cX5_adds 4 none ∈ gx_TB := gx_tb 827 (by decide +kernel) (by decide +kernel)
theorem tb_828 : Cond.methodLink RL 36 yX5_pledge ∈ gx_TB := gx_tb 828 (by decide +kernel) (by decide +kernel)
theorem tb_829 : Cond.instanceMethod yX5_pledge ∈ gx_TB := gx_tb 829 (by decide +kernel) (by decide +kernel)
theorem tb_830 : Cond.selects RX5 yX5_pledge yX5_pledge ∈ gx_TB := gx_tb 830 (by decide +kernel) (by decide +kernel)
theorem tb_831 : Cond.code yX5_pledge cX5_pledge 7 (some .int) ∈ gx_TB := gx_tb 831 (by decide +kernel) (by decide +kernel)
theorem tb_832 : Cond.methodLink RX5 99 yX5_putsPledge ∈ gx_TB := gx_tb 832 (by decide +kernel) (by decide +kernel)
theorem tb_834 : Cond.instanceMethod yX5_putsPledge ∈ gx_TB := gx_tb 834 (by decide +kernel) (by decide +kernel)
theorem tb_835 : Cond.code yX5_putsPledge cX5_putsPledge 4 none ∈ gx_TB := gx_tb 835 (by decide +kernel) (by decide +kernel)
theorem tb_836 : Cond.methodLink RL 41 yX5_miss ∈ gx_TB := gx_tb 836 (by decide +kernel) (by decide +kernel)
theorem tb_837 : Cond.instanceMethod yX5_miss ∈ gx_TB := gx_tb 837 (by decide +kernel) (by decide +kernel)
theorem tb_838 : Cond.selects RX5 yX5_miss yX5_miss ∈ gx_TB := gx_tb 838 (by decide +kernel) (by decide +kernel)
theorem tb_839 : Cond.code yX5_miss cX5_miss 2 (some .int) ∈ gx_TB := gx_tb 839 (by decide +kernel) (by decide +kernel)
theorem tb_840 : Cond.methodLink RX5 102 yX5_isPledge ∈ gx_TB := gx_tb 840 (by decide +kernel) (by decide +kernel)
theorem tb_842 : Cond.instanceMethod yX5_isPledge ∈ gx_TB := gx_tb 842 (by decide +kernel) (by decide +kernel)
theorem tb_843 : Cond.code yX5_isPledge cX5_isPledge 2 (some .boolean) ∈ gx_TB := gx_tb 843 (by decide +kernel) (by decide +kernel)
theorem tb_844 : Cond.methodLink RX5 105 yX5_ofPledge ∈ gx_TB := gx_tb 844 (by decide +kernel) (by decide +kernel)
theorem tb_846 : Cond.instanceMethod yX5_ofPledge ∈ gx_TB := gx_tb 846 (by decide +kernel) (by decide +kernel)
theorem tb_847 : Cond.code yX5_ofPledge cX5_ofPledge 3 (some .int) ∈ gx_TB := gx_tb 847 (by decide +kernel) (by decide +kernel)
theorem tb_848 : Cond.methodLink RL 45 yX5_stop ∈ gx_TB := gx_tb 848 (by decide +kernel) (by decide +kernel)
theorem tb_849 : Cond.instanceMethod yX5_stop ∈ gx_TB := gx_tb 849 (by decide +kernel) (by decide +kernel)
theorem tb_850 : Cond.selects RX5 yX5_stop yX5_stop ∈ gx_TB := gx_tb 850 (by decide +kernel) (by decide +kernel)
theorem tb_851 : Cond.code yX5_stop cX5_stop 2 (some .int) ∈ gx_TB := gx_tb 851 (by decide +kernel) (by decide +kernel)
theorem tb_852 : Cond.methodLink RX5 108 yX5_ends ∈ gx_TB := gx_tb 852 (by decide +kernel) (by decide +kernel)
theorem tb_854 : Cond.instanceMethod yX5_ends ∈ gx_TB := gx_tb 854 (by decide +kernel) (by decide +kernel)
theorem tb_855 : Cond.code yX5_ends cX5_ends 3 none ∈ gx_TB := gx_tb 855 (by decide +kernel) (by decide +kernel)
theorem tb_856 : Cond.methodLink RL 97 yX5_wouldClaim ∈ gx_TB := gx_tb 856 (by decide +kernel) (by decide +kernel)
theorem tb_857 : Cond.instanceMethod yX5_wouldClaim ∈ gx_TB := gx_tb 857 (by decide +kernel) (by decide +kernel)
theorem tb_858 : Cond.selects RX5 yX5_wouldClaim yX5_wouldClaim ∈ gx_TB := gx_tb 858 (by decide +kernel) (by decide +kernel)
theorem tb_859 : Cond.code yX5_wouldClaim cX5_wouldClaim 3 (some .int) ∈ gx_TB := gx_tb 859 (by decide +kernel) (by decide +kernel)
theorem tb_860 : Cond.methodLink RX5 128 yX5_copies ∈ gx_TB := gx_tb 860 (by decide +kernel) (by decide +kernel)
theorem tb_861 : Cond.static yX5_copies ∈ gx_TB := gx_tb 861 (by decide +kernel) (by decide +kernel)
theorem tb_862 : Cond.code yX5_copies cX5_copies 3 none ∈ gx_TB := gx_tb 862 (by decide +kernel) (by decide +kernel)
theorem tb_863 : Cond.methodLink RX5 132 yX5_claims ∈ gx_TB := gx_tb 863 (by decide +kernel) (by decide +kernel)
theorem tb_865 : Cond.instanceMethod yX5_claims ∈ gx_TB := gx_tb 865 (by decide +kernel) (by decide +kernel)
theorem tb_866 : Cond.code yX5_claims cX5_claims 6 (some .int) ∈ gx_TB := gx_tb 866 (by decide +kernel) (by decide +kernel)
theorem tb_867 : Cond.methodLink RX5 112 yX5_ofGift ∈ gx_TB := gx_tb 867 (by decide +kernel) (by decide +kernel)
theorem tb_869 : Cond.instanceMethod yX5_ofGift ∈ gx_TB := gx_tb 869 (by decide +kernel) (by decide +kernel)
theorem tb_870 : Cond.code yX5_ofGift cX5_ofGift 3 (some .int) ∈ gx_TB := gx_tb 870 (by decide +kernel) (by decide +kernel)
theorem tb_871 : Cond.methodLink RX5 118 yX5_canClaim ∈ gx_TB := gx_tb 871 (by decide +kernel) (by decide +kernel)
theorem tb_873 : Cond.instanceMethod yX5_canClaim ∈ gx_TB := gx_tb 873 (by decide +kernel) (by decide +kernel)
theorem tb_874 : Cond.code yX5_canClaim cX5_canClaim 7 (some .boolean) ∈ gx_TB := gx_tb 874 (by decide +kernel) (by decide +kernel)
theorem tb_875 : Cond.methodLink RX5 121 yX5_tax ∈ gx_TB := gx_tb 875 (by decide +kernel) (by decide +kernel)
theorem tb_876 : Cond.static yX5_tax ∈ gx_TB := gx_tb 876 (by decide +kernel) (by decide +kernel)
theorem tb_877 : Cond.code yX5_tax cX5_tax 1 (some .int) ∈ gx_TB := gx_tb 877 (by decide +kernel) (by decide +kernel)
theorem tb_878 : Cond.methodLink RX5 125 yX5_home ∈ gx_TB := gx_tb 878 (by decide +kernel) (by decide +kernel)
theorem tb_880 : Cond.instanceMethod yX5_home ∈ gx_TB := gx_tb 880 (by decide +kernel) (by decide +kernel)
theorem tb_881 : Cond.code yX5_home cX5_home 3 (some .int) ∈ gx_TB := gx_tb 881 (by decide +kernel) (by decide +kernel)
theorem tb_882 : Cond.methodLink RL 49 yX5_claim ∈ gx_TB := gx_tb 882 (by decide +kernel) (by decide +kernel)
theorem tb_883 : Cond.instanceMethod yX5_claim ∈ gx_TB := gx_tb 883 (by decide +kernel) (by decide +kernel)
theorem tb_884 : Cond.selects RX5 yX5_claim yX5_claim ∈ gx_TB := gx_tb 884 (by decide +kernel) (by decide +kernel)
theorem tb_885 : Cond.code yX5_claim cX5_claim 1 (some .int) ∈ gx_TB := gx_tb 885 (by decide +kernel) (by decide +kernel)
theorem tb_886 : Cond.methodLink RL 53 yX5_spend ∈ gx_TB := gx_tb 886 (by decide +kernel) (by decide +kernel)
theorem tb_887 : Cond.instanceMethod yX5_spend ∈ gx_TB := gx_tb 887 (by decide +kernel) (by decide +kernel)
theorem tb_888 : Cond.selects RX5 yX5_spend yX5_spend ∈ gx_TB := gx_tb 888 (by decide +kernel) (by decide +kernel)
theorem tb_889 : Cond.code yX5_spend cX5_spend 5 (some .int) ∈ gx_TB := gx_tb 889 (by decide +kernel) (by decide +kernel)
theorem tb_890 : Cond.methodLink RL 57 yX5_agree ∈ gx_TB := gx_tb 890 (by decide +kernel) (by decide +kernel)
theorem tb_891 : Cond.instanceMethod yX5_agree ∈ gx_TB := gx_tb 891 (by decide +kernel) (by decide +kernel)
theorem tb_892 : Cond.selects RX5 yX5_agree yX5_agree ∈ gx_TB := gx_tb 892 (by decide +kernel) (by decide +kernel)
theorem tb_893 : Cond.code yX5_agree cX5_agree 4 (some .int) ∈ gx_TB := gx_tb 893 (by decide +kernel) (by decide +kernel)
theorem tb_894 : Cond.methodLink RX5 138 yX5_areTwo ∈ gx_TB := gx_tb 894 (by decide +kernel) (by decide +kernel)
theorem tb_896 : Cond.instanceMethod yX5_areTwo ∈ gx_TB := gx_tb 896 (by decide +kernel) (by decide +kernel)
theorem tb_897 : Cond.code yX5_areTwo cX5_areTwo 3 (some .boolean) ∈ gx_TB := gx_tb 897 (by decide +kernel) (by decide +kernel)
theorem tb_898 : Cond.methodLink RX5 135 yX5_weight ∈ gx_TB := gx_tb 898 (by decide +kernel) (by decide +kernel)
theorem tb_900 : Cond.instanceMethod yX5_weight ∈ gx_TB := gx_tb 900 (by decide +kernel) (by decide +kernel)
theorem tb_901 : Cond.code yX5_weight cX5_weight 6 (some .int) ∈ gx_TB := gx_tb 901 (by decide +kernel) (by decide +kernel)
theorem tb_902 : Cond.methodLink RL 61 yX5_merge ∈ gx_TB := gx_tb 902 (by decide +kernel) (by decide +kernel)
theorem tb_903 : Cond.instanceMethod yX5_merge ∈ gx_TB := gx_tb 903 (by decide +kernel) (by decide +kernel)
theorem tb_904 : Cond.selects RX5 yX5_merge yX5_merge ∈ gx_TB := gx_tb 904 (by decide +kernel) (by decide +kernel)
theorem tb_905 : Cond.code yX5_merge cX5_merge 6 (some .int) ∈ gx_TB := gx_tb 905 (by decide +kernel) (by decide +kernel)
theorem tb_906 : Cond.methodLink RX5 142 yX5_weights ∈ gx_TB := gx_tb 906 (by decide +kernel) (by decide +kernel)
theorem tb_908 : Cond.instanceMethod yX5_weights ∈ gx_TB := gx_tb 908 (by decide +kernel) (by decide +kernel)
theorem tb_909 : Cond.code yX5_weights cX5_weights 5 (some .int) ∈ gx_TB := gx_tb 909 (by decide +kernel) (by decide +kernel)
theorem tb_910 : Cond.methodLink RL 65 yX5_refund ∈ gx_TB := gx_tb 910 (by decide +kernel) (by decide +kernel)
theorem tb_911 : Cond.instanceMethod yX5_refund ∈ gx_TB := gx_tb 911 (by decide +kernel) (by decide +kernel)
theorem tb_912 : Cond.selects RX5 yX5_refund yX5_refund ∈ gx_TB := gx_tb 912 (by decide +kernel) (by decide +kernel)
theorem tb_913 : Cond.code yX5_refund cX5_refund 5 (some .int) ∈ gx_TB := gx_tb 913 (by decide +kernel) (by decide +kernel)
theorem tb_914 : Cond.methodLink RL 69 yX5_pass ∈ gx_TB := gx_tb 914 (by decide +kernel) (by decide +kernel)
theorem tb_915 : Cond.instanceMethod yX5_pass ∈ gx_TB := gx_tb 915 (by decide +kernel) (by decide +kernel)
theorem tb_916 : Cond.selects RX5 yX5_pass yX5_pass ∈ gx_TB := gx_tb 916 (by decide +kernel) (by decide +kernel)
theorem tb_917 : Cond.code yX5_pass cX5_pass 2 (some .int) ∈ gx_TB := gx_tb 917 (by decide +kernel) (by decide +kernel)
theorem tb_918 : Cond.methodLink RX5 148 yX5_goes ∈ gx_TB := gx_tb 918 (by decide +kernel) (by decide +kernel)
theorem tb_920 : Cond.instanceMethod yX5_goes ∈ gx_TB := gx_tb 920 (by decide +kernel) (by decide +kernel)
theorem tb_921 : Cond.code yX5_goes cX5_goes 5 (some .int) ∈ gx_TB := gx_tb 921 (by decide +kernel) (by decide +kernel)
theorem tb_922 : Cond.methodLink RX5 145 yX5_month ∈ gx_TB := gx_tb 922 (by decide +kernel) (by decide +kernel)
theorem tb_924 : Cond.instanceMethod yX5_month ∈ gx_TB := gx_tb 924 (by decide +kernel) (by decide +kernel)
theorem tb_925 : Cond.code yX5_month cX5_month 2 (some .int) ∈ gx_TB := gx_tb 925 (by decide +kernel) (by decide +kernel)
theorem tb_926 : Cond.methodLink RL 73 yX5_set ∈ gx_TB := gx_tb 926 (by decide +kernel) (by decide +kernel)
theorem tb_927 : Cond.instanceMethod yX5_set ∈ gx_TB := gx_tb 927 (by decide +kernel) (by decide +kernel)
theorem tb_928 : Cond.selects RX5 yX5_set yX5_set ∈ gx_TB := gx_tb 928 (by decide +kernel) (by decide +kernel)
theorem tb_929 : Cond.code yX5_set cX5_set 4 (some .int) ∈ gx_TB := gx_tb 929 (by decide +kernel) (by decide +kernel)
theorem tb_930 : Cond.constant RX5 151 (99999) ∈ gx_TB := gx_tb 930 (by decide +kernel) (by decide +kernel)
theorem tb_931 : Cond.methodLink RL 77 yX5_purposeOf ∈ gx_TB := gx_tb 931 (by decide +kernel) (by decide +kernel)
theorem tb_932 : Cond.instanceMethod yX5_purposeOf ∈ gx_TB := gx_tb 932 (by decide +kernel) (by decide +kernel)
theorem tb_933 : Cond.selects RX5 yX5_purposeOf yX5_purposeOf ∈ gx_TB := gx_tb 933 (by decide +kernel) (by decide +kernel)
theorem tb_934 : Cond.code yX5_purposeOf cX5_purposeOf 3 (some .int) ∈ gx_TB := gx_tb 934 (by decide +kernel) (by decide +kernel)
theorem tb_935 : Cond.methodLink RL 81 yX5_donorOf ∈ gx_TB := gx_tb 935 (by decide +kernel) (by decide +kernel)
theorem tb_936 : Cond.instanceMethod yX5_donorOf ∈ gx_TB := gx_tb 936 (by decide +kernel) (by decide +kernel)
theorem tb_937 : Cond.selects RX5 yX5_donorOf yX5_donorOf ∈ gx_TB := gx_tb 937 (by decide +kernel) (by decide +kernel)
theorem tb_938 : Cond.code yX5_donorOf cX5_donorOf 3 (some .int) ∈ gx_TB := gx_tb 938 (by decide +kernel) (by decide +kernel)
theorem tb_939 : Cond.methodLink RX5 152 yX5_given ∈ gx_TB := gx_tb 939 (by decide +kernel) (by decide +kernel)
theorem tb_941 : Cond.instanceMethod yX5_given ∈ gx_TB := gx_tb 941 (by decide +kernel) (by decide +kernel)
theorem tb_942 : Cond.code yX5_given cX5_given 6 (some .int) ∈ gx_TB := gx_tb 942 (by decide +kernel) (by decide +kernel)
theorem tb_943 : Cond.methodLink RX5 155 yX5_running ∈ gx_TB := gx_tb 943 (by decide +kernel) (by decide +kernel)
theorem tb_945 : Cond.instanceMethod yX5_running ∈ gx_TB := gx_tb 945 (by decide +kernel) (by decide +kernel)
theorem tb_946 : Cond.code yX5_running cX5_running 4 (some .int) ∈ gx_TB := gx_tb 946 (by decide +kernel) (by decide +kernel)
theorem tb_947 : Cond.methodLink RL 85 yX5_giftOf ∈ gx_TB := gx_tb 947 (by decide +kernel) (by decide +kernel)
theorem tb_948 : Cond.instanceMethod yX5_giftOf ∈ gx_TB := gx_tb 948 (by decide +kernel) (by decide +kernel)
theorem tb_949 : Cond.selects RX5 yX5_giftOf yX5_giftOf ∈ gx_TB := gx_tb 949 (by decide +kernel) (by decide +kernel)
theorem tb_950 : Cond.code yX5_giftOf cX5_giftOf 3 (some .int) ∈ gx_TB := gx_tb 950 (by decide +kernel) (by decide +kernel)
theorem tb_951 : Cond.methodLink RL 89 yX5_pledgeOf ∈ gx_TB := gx_tb 951 (by decide +kernel) (by decide +kernel)
theorem tb_952 : Cond.instanceMethod yX5_pledgeOf ∈ gx_TB := gx_tb 952 (by decide +kernel) (by decide +kernel)
theorem tb_953 : Cond.selects RX5 yX5_pledgeOf yX5_pledgeOf ∈ gx_TB := gx_tb 953 (by decide +kernel) (by decide +kernel)
theorem tb_954 : Cond.code yX5_pledgeOf cX5_pledgeOf 3 (some .int) ∈ gx_TB := gx_tb 954 (by decide +kernel) (by decide +kernel)
theorem tb_955 : Cond.methodLink RL 93 yX5_count ∈ gx_TB := gx_tb 955 (by decide +kernel) (by decide +kernel)
theorem tb_956 : Cond.instanceMethod yX5_count ∈ gx_TB := gx_tb 956 (by decide +kernel) (by decide +kernel)
theorem tb_957 : Cond.selects RX5 yX5_count yX5_count ∈ gx_TB := gx_tb 957 (by decide +kernel) (by decide +kernel)
theorem tb_958 : Cond.code yX5_count cX5_count 2 (some .int) ∈ gx_TB := gx_tb 958 (by decide +kernel) (by decide +kernel)
theorem tb_959 : Cond.methodLink RX5 158 yX5_all ∈ gx_TB := gx_tb 959 (by decide +kernel) (by decide +kernel)
theorem tb_961 : Cond.instanceMethod yX5_all ∈ gx_TB := gx_tb 961 (by decide +kernel) (by decide +kernel)
theorem tb_962 : Cond.code yX5_all cX5_all 4 (some .int) ∈ gx_TB := gx_tb 962 (by decide +kernel) (by decide +kernel)
theorem tb_963 : Cond.methodLink RL 101 yX5_consents ∈ gx_TB := gx_tb 963 (by decide +kernel) (by decide +kernel)
theorem tb_964 : Cond.instanceMethod yX5_consents ∈ gx_TB := gx_tb 964 (by decide +kernel) (by decide +kernel)
theorem tb_965 : Cond.selects RX5 yX5_consents yX5_consents ∈ gx_TB := gx_tb 965 (by decide +kernel) (by decide +kernel)
theorem tb_966 : Cond.code yX5_consents cX5_consents 4 (some .int) ∈ gx_TB := gx_tb 966 (by decide +kernel) (by decide +kernel)
theorem tb_967 : Cond.methodLink RL 105 yX5_later ∈ gx_TB := gx_tb 967 (by decide +kernel) (by decide +kernel)
theorem tb_968 : Cond.instanceMethod yX5_later ∈ gx_TB := gx_tb 968 (by decide +kernel) (by decide +kernel)
theorem tb_969 : Cond.selects RX5 yX5_later yX5_later ∈ gx_TB := gx_tb 969 (by decide +kernel) (by decide +kernel)
theorem tb_970 : Cond.code yX5_later cX5_later 5 (some .int) ∈ gx_TB := gx_tb 970 (by decide +kernel) (by decide +kernel)
theorem tb_971 : Cond.methodLink RL 109 yX5_undo ∈ gx_TB := gx_tb 971 (by decide +kernel) (by decide +kernel)
theorem tb_972 : Cond.instanceMethod yX5_undo ∈ gx_TB := gx_tb 972 (by decide +kernel) (by decide +kernel)
theorem tb_973 : Cond.selects RX5 yX5_undo yX5_undo ∈ gx_TB := gx_tb 973 (by decide +kernel) (by decide +kernel)
theorem tb_974 : Cond.code yX5_undo cX5_undo 2 (some .int) ∈ gx_TB := gx_tb 974 (by decide +kernel) (by decide +kernel)
theorem tb_975 : Cond.methodLink RL 113 yX5_type ∈ gx_TB := gx_tb 975 (by decide +kernel) (by decide +kernel)
theorem tb_976 : Cond.instanceMethod yX5_type ∈ gx_TB := gx_tb 976 (by decide +kernel) (by decide +kernel)
theorem tb_977 : Cond.selects RX5 yX5_type yX5_type ∈ gx_TB := gx_tb 977 (by decide +kernel) (by decide +kernel)
theorem tb_978 : Cond.code yX5_type cX5_type 2 (some .int) ∈ gx_TB := gx_tb 978 (by decide +kernel) (by decide +kernel)
theorem tb_979 : Cond.methodLink RL 117 yX5_clearText ∈ gx_TB := gx_tb 979 (by decide +kernel) (by decide +kernel)
theorem tb_980 : Cond.instanceMethod yX5_clearText ∈ gx_TB := gx_tb 980 (by decide +kernel) (by decide +kernel)
theorem tb_981 : Cond.selects RX5 yX5_clearText yX5_clearText ∈ gx_TB := gx_tb 981 (by decide +kernel) (by decide +kernel)
theorem tb_982 : Cond.code yX5_clearText cX5_clearText 2 (some .int) ∈ gx_TB := gx_tb 982 (by decide +kernel) (by decide +kernel)
theorem tb_983 : Cond.methodLink RL 121 yX5_fault ∈ gx_TB := gx_tb 983 (by decide +kernel) (by decide +kernel)
theorem tb_984 : Cond.instanceMethod yX5_fault ∈ gx_TB := gx_tb 984 (by decide +kernel) (by decide +kernel)
theorem tb_985 : Cond.selects RX5 yX5_fault yX5_fault ∈ gx_TB := gx_tb 985 (by decide +kernel) (by decide +kernel)
theorem tb_986 : Cond.code yX5_fault cX5_fault 3 (some .int) ∈ gx_TB := gx_tb 986 (by decide +kernel) (by decide +kernel)
theorem tb_987 : Cond.methodLink RX5 222 yX5_plays ∈ gx_TB := gx_tb 987 (by decide +kernel) (by decide +kernel)
theorem tb_989 : Cond.instanceMethod yX5_plays ∈ gx_TB := gx_tb 989 (by decide +kernel) (by decide +kernel)
theorem tb_990 : Cond.code yX5_plays cX5_plays 4 (some .int) ∈ gx_TB := gx_tb 990 (by decide +kernel) (by decide +kernel)
theorem tb_991 : Cond.methodLink RX5 213 yX5_reads ∈ gx_TB := gx_tb 991 (by decide +kernel) (by decide +kernel)
theorem tb_993 : Cond.instanceMethod yX5_reads ∈ gx_TB := gx_tb 993 (by decide +kernel) (by decide +kernel)
theorem tb_994 : Cond.code yX5_reads cX5_reads 4 (some .int) ∈ gx_TB := gx_tb 994 (by decide +kernel) (by decide +kernel)
theorem tb_995 : Cond.methodLink RX5 172 yX5_word ∈ gx_TB := gx_tb 995 (by decide +kernel) (by decide +kernel)
theorem tb_997 : Cond.instanceMethod yX5_word ∈ gx_TB := gx_tb 997 (by decide +kernel) (by decide +kernel)
theorem tb_998 : Cond.code yX5_word cX5_word 6 (some .int) ∈ gx_TB := gx_tb 998 (by decide +kernel) (by decide +kernel)
theorem tb_999 : Cond.methodLink RX5 167 yX5_isAt ∈ gx_TB := gx_tb 999 (by decide +kernel) (by decide +kernel)
theorem tb_1001 : Cond.instanceMethod yX5_isAt ∈ gx_TB := gx_tb 1001 (by decide +kernel) (by decide +kernel)
theorem tb_1002 : Cond.code yX5_isAt cX5_isAt 3 (some .boolean) ∈ gx_TB := gx_tb 1002 (by decide +kernel) (by decide +kernel)
theorem tb_1003 : Cond.constantLong RX5 170 (256) ∈ gx_TB := gx_tb 1003 (by decide +kernel) (by decide +kernel)
theorem tb_1004 : Cond.methodLink RX5 176 yX5_passes ∈ gx_TB := gx_tb 1004 (by decide +kernel) (by decide +kernel)
theorem tb_1006 : Cond.instanceMethod yX5_passes ∈ gx_TB := gx_tb 1006 (by decide +kernel) (by decide +kernel)
theorem tb_1007 : Cond.code yX5_passes cX5_passes 3 (some .boolean) ∈ gx_TB := gx_tb 1007 (by decide +kernel) (by decide +kernel)
theorem tb_1008 : Cond.methodLink RX5 179 yX5_number ∈ gx_TB := gx_tb 1008 (by decide +kernel) (by decide +kernel)
theorem tb_1010 : Cond.instanceMethod yX5_number ∈ gx_TB := gx_tb 1010 (by decide +kernel) (by decide +kernel)
theorem tb_1011 : Cond.code yX5_number cX5_number 3 (some .boolean) ∈ gx_TB := gx_tb 1011 (by decide +kernel) (by decide +kernel)
theorem tb_1012 : Cond.methodLink RX5 216 yX5_calls ∈ gx_TB := gx_tb 1012 (by decide +kernel) (by decide +kernel)
theorem tb_1014 : Cond.instanceMethod yX5_calls ∈ gx_TB := gx_tb 1014 (by decide +kernel) (by decide +kernel)
theorem tb_1015 : Cond.code yX5_calls cX5_calls 2 (some .int) ∈ gx_TB := gx_tb 1015 (by decide +kernel) (by decide +kernel)
theorem tb_1016 : Cond.methodLink RX5 182 yX5_give ∈ gx_TB := gx_tb 1016 (by decide +kernel) (by decide +kernel)
theorem tb_1017 : Cond.methodLink RX5 186 yX5_pledge ∈ gx_TB := gx_tb 1017 (by decide +kernel) (by decide +kernel)
theorem tb_1018 : Cond.methodLink RX5 189 yX5_miss ∈ gx_TB := gx_tb 1018 (by decide +kernel) (by decide +kernel)
theorem tb_1019 : Cond.methodLink RX5 192 yX5_claim ∈ gx_TB := gx_tb 1019 (by decide +kernel) (by decide +kernel)
theorem tb_1020 : Cond.methodLink RX5 195 yX5_spend ∈ gx_TB := gx_tb 1020 (by decide +kernel) (by decide +kernel)
theorem tb_1021 : Cond.methodLink RX5 198 yX5_agree ∈ gx_TB := gx_tb 1021 (by decide +kernel) (by decide +kernel)
theorem tb_1022 : Cond.methodLink RX5 201 yX5_merge ∈ gx_TB := gx_tb 1022 (by decide +kernel) (by decide +kernel)
theorem tb_1023 : Cond.methodLink RX5 204 yX5_refund ∈ gx_TB := gx_tb 1023 (by decide +kernel) (by decide +kernel)
theorem tb_1024 : Cond.methodLink RX5 207 yX5_pass ∈ gx_TB := gx_tb 1024 (by decide +kernel) (by decide +kernel)
theorem tb_1025 : Cond.methodLink RL 125 yX5_play ∈ gx_TB := gx_tb 1025 (by decide +kernel) (by decide +kernel)
theorem tb_1026 : Cond.instanceMethod yX5_play ∈ gx_TB := gx_tb 1026 (by decide +kernel) (by decide +kernel)
theorem tb_1027 : Cond.selects RX5 yX5_play yX5_play ∈ gx_TB := gx_tb 1027 (by decide +kernel) (by decide +kernel)
theorem tb_1028 : Cond.code yX5_play cX5_play 2 (some .int) ∈ gx_TB := gx_tb 1028 (by decide +kernel) (by decide +kernel)
theorem tb_1029 : Cond.fieldLink RJ0 9 "java/lang/String" "value" "[B" ∈ gx_TB := gx_tb 1029 (by decide +kernel) (by decide +kernel)
theorem tb_1030 : Cond.fieldLink RJ0 15 "java/lang/String" "coder" "B" ∈ gx_TB := gx_tb 1030 (by decide +kernel) (by decide +kernel)
theorem inX0 : ∀ w ∈ wsX00, w ∈ gx_TB := by decide +kernel
theorem inX1 : ∀ w ∈ wsX10, w ∈ gx_TB := by decide +kernel
theorem inX2 : ∀ w ∈ wsX20, w ∈ gx_TB := by decide +kernel
theorem inX3 : ∀ w ∈ wsX30, w ∈ gx_TB := by decide +kernel
theorem inX4 : ∀ w ∈ wsX40, w ∈ gx_TB := by decide +kernel
theorem inX5 : ∀ w ∈ wsX50, w ∈ gx_TB := by decide +kernel
end
section
/-! What a walk stands on, beside the cells of its world: links of nest mates, the class of arrays of arrays, the String constants, statics of the JDK's. -/
abbrev gx_K : Type := va_G × (ClassId × ClassId × ClassId × ClassId) × (Nat → Nat) × (Nat → Nat) × Nat
abbrev gx_ty (K : gx_K) : List (ClassId × FieldType) := [(K.2.1.1, .char), (K.2.1.2.1, .int), (K.2.1.2.2.1, .long), (K.2.1.2.2.2, .array .int)]
def gx_len : List Nat := [4, 6, 4, 5, 5, 5, 5, 6, 4]
/-- the words' letters: give, pledge, miss, claim, spend, agree, merge, refund, pass -/
def gx_byt : List (List Int32) := [[103, 105, 118, 101], [112, 108, 101, 100, 103, 101], [109, 105, 115, 115], [99, 108, 97, 105, 109], [115, 112, 101, 110, 100], [97, 103, 114, 101, 101], [109, 101, 114, 103, 101], [114, 101, 102, 117, 110, 100], [112, 97, 115, 115]]
def gx_txt : List String := ["give", "pledge", "miss", "claim", "spend", "agree", "merge", "refund", "pass"]
def gx_AO (t : FieldType) (U : State) : Prop := (Cond.arrayOver (.array t)).before #[] U = true
theorem gx_AO.moved {t : FieldType} {u U : State} (hvm : u.vm.Alike U.vm) (h : gx_AO t u) : gx_AO t U := by
  obtain ⟨comp, c, k, h1, h2, h3, h4, h5⟩ := arrayOverA_spec h
  obtain ⟨k', hk', he⟩ := hvm.2.2 _ _ h3
  have hi : (U.vm.classes.findIdx? fun (x : Class) => match x.kind with | .array component _ => component == comp | _ => false) = some c := by
    have e : ∀ f : Class → Bool, (∀ x : Class, f x.bare = f x) → U.vm.classes.findIdx? f = u.vm.classes.findIdx? f := fun f hf => by
      have e1 : ∀ vm : Vm, vm.bare.classes.findIdx? f = vm.classes.findIdx? f := fun vm => by
        simp only [Vm.bare, Array.findIdx?_map]
        exact congrArg (fun g => vm.classes.findIdx? g) (funext hf)
      rw [← e1 U.vm, ← e1 u.vm]
      first | rw [hvm.bare_eq] | rw [← hvm.bare_eq]
    exact (e _ (fun _ => rfl)).trans h2
  have hkind : k'.kind = .array comp (.array t) := by rw [he]; exact h4
  have f1 : U.vm.findClass (FieldType.array t).toString = some comp := by rw [hvm.findClass]; exact h1
  have f2 : U.vm.findClass ("[" ++ (FieldType.array t).toString) = some c := by rw [hvm.findClass]; exact h5
  unfold gx_AO Cond.before Cond.holds
  simp only [Cond.value]
  rw [f1, Option.bind_some]
  refine (congrArg (fun o : Option Nat => (o.bind (fun c => (U.vm.classes[c]?).map fun (k : Class) => match k.kind with | .array _ ty => decide (ty = FieldType.array t) && decide (U.vm.findClass ("[" ++ (FieldType.array t).toString) = some c) | _ => false) == some true)) hi).trans ?_
  simp [hk', hkind, f2]
def gx_X (K : gx_K) (A : Nat → Prop) (U : State) (H : Heap) : Prop :=
  (va_Nw (.methodLinkNest RX4 23 yX1_init "GiftPurposes") U ∧ va_Nw (.methodLinkNest RX4 30 yX2_init "GiftPurposes") U ∧ va_Nw (.methodLinkNest RX0 54 yX4_within "GiftPurposes") U ∧ va_Nw (.methodLinkNest RX2 35 yX4_within "GiftPurposes") U) ∧
  gx_AO .int U ∧ (∀ i : Nat, i < 9 → vk_R RX2 (121 + 2 * i) (gx_txt.getD i "") (K.2.2.1 i) U) ∧ vk_S 9 gx_len gx_byt K.2.2.1 K.2.2.2.1 A U H ∧ va_Z RJ0 "COMPACT_STRINGS" "Z" (.int 1) A U H ∧ va_Z RJ3 "SIOOBE_FORMATTER" "Ljava/util/function/BiFunction;" (.ref K.2.2.2.2) A U H
theorem gx_X.on {K : gx_K} {A B : Nat → Prop} {s U : State} {H H1 : Heap} (hW : s.WarmedH U.vm) (hk : ∀ a : Nat, a < H.size → ¬ A a → H1[a]? = H[a]?) (hAB : ∀ q, B q → A q) (h : gx_X K A s H) : gx_X K B U H1 := by
  obtain ⟨⟨h1, h2, h3, h4⟩, h5, h6, h7, h8, h9⟩ := h
  exact ⟨⟨h1.warmM hW, h2.warmM hW, h3.warmM hW, h4.warmM hW⟩, h5.moved hW.alike, fun i hi => (h6 i hi).warm hW, ((h7.moved hW.alike).kept hk).narrow hAB, ((h8.moved hW.alike).kept hk).narrow hAB, ((h9.moved hW.alike).kept hk).narrow hAB⟩
theorem gx_X.same {K : gx_K} {A : Nat → Prop} {u U : State} {H : Heap} (hv : U.vm = u.vm) (h : gx_X K A u H) : gx_X K A U H := by
  obtain ⟨⟨h1, h2, h3, h4⟩, h5, h6, h7, h8, h9⟩ := h
  have ha : u.vm.Alike U.vm := by rw [hv]; exact Vm.Alike.refl u.vm
  exact ⟨⟨h1.same rfl hv.symm, h2.same rfl hv.symm, h3.same rfl hv.symm, h4.same rfl hv.symm⟩, h5.moved ha, fun i hi => (h6 i hi).same hv, h7.moved ha, h8.moved ha, h9.moved ha⟩
/-! A judgement over the kit's rows: all that a walk needs of the machine is in gx_B, what it ends in, in gx_C; a goal is 'G cells slots world locals pc stack'. -/
abbrev gx_J : Type := Nat → Nat → va_W → List (Nat × Value) → Nat → List Value → Prop
def gx_W (p : Program) (l : Launch) (e : Env) (R : Room) (s : State) (m : MethodId) (args : Array Value) (below : List Frame) (meth : Method) (c : Code) (D : va_G) (A : Nat → Prop) (nL : Nat) (Q : State → Prop) : gx_J := fun k n ws lv pc st =>
  ∀ (H : Heap) (locs : List Loc) (ls : Array Slot), va_P D vwCl ws H → va_D A ws → va_S A s.heap H locs → lv_has ls nL lv → W p l e R s m args below meth c H locs k n Q (F0 m pc ls st)
def gx_Q (K : gx_K) (A : Nat → Prop) (Post : Option Value → va_W → Prop) : Array Value → State → Outcome → State → Prop := fun _ st oc t =>
  (∃ (v : Option Value) (w : va_W), oc = .returned v ∧ Post v w ∧ va_P K.1 vwCl w t.heap ∧ va_K K.1 vwCl (gx_ty K) t ∧ va_D A w) ∧ va_F A st t
/-- a contract: from the cells W0, the answer and the cells behind it are as Post says -/
def gx_Ctr (l : Launch) (K : gx_K) (y : MethodName) (cc : ByteArray) (nL : Nat) (ret : Option FieldType) (rm : Room) (av : List Value) (W0 : va_W) (Post : Option Value → va_W → Prop) : Prop :=
  ∀ sz : Nat, Met l y (Cond.code y cc nL ret :: gx_TB) rm (va_Pc av (fun U => U.heap.size = sz ∧ va_P K.1 vwCl W0 U.heap ∧ va_K K.1 vwCl (gx_ty K) U ∧ va_D (fun _ => True) W0 ∧ gx_X K (va_A W0 sz) U U.heap)) (gx_Q K (va_A W0 sz) Post) rm.cells rm.slots (va_A W0 sz)
/-- what holds in a walk, but for its end -/
def gx_B (cc : ByteArray) (nL : Nat) (own : String) (l : Launch) (R : Room) (K : gx_K) (G : gx_J) : Prop :=
  ∃ (p : Program) (e : Env) (s : State) (m : MethodId) (args : Array Value) (below : List Frame) (meth : Method) (c : Code) (A : Nat → Prop) (Q : State → Prop), G = gx_W p l e R s m args below meth c K.1 A nL Q ∧ p.tables.exec = Jvm.exec ∧ c.code = cc ∧ c.maxLocals = nL ∧ s.vm.findClass own = some m.cls ∧ (∀ w ∈ gx_TB, w.before args s = true) ∧ va_K K.1 vwCl (gx_ty K) s ∧ (∀ q : Nat, s.heap.size ≤ q → A q) ∧ gx_X K A s s.heap
def gx_C (cc : ByteArray) (nL : Nat) (own nm : String) (l : Launch) (R : Room) (K : gx_K) (ret : Option FieldType) (Post : Option Value → va_W → Prop) (G : gx_J) : Prop :=
  ∃ (p : Program) (e : Env) (s : State) (m : MethodId) (args : Array Value) (below : List Frame) (meth : Method) (c : Code) (A : Nat → Prop), G = gx_W p l e R s m args below meth c K.1 A nL (MQ below (gx_Q K A Post) args s R.cells R.slots A) ∧ p.tables.exec = Jvm.exec ∧ c.code = cc ∧ c.maxLocals = nL ∧ s.vm.findClass own = some m.cls ∧ (∀ w ∈ gx_TB, w.before args s = true) ∧ va_K K.1 vwCl (gx_ty K) s ∧ (∀ q : Nat, s.heap.size ≤ q → A q) ∧ gx_X K A s s.heap ∧ meth.locks = false ∧ meth.sig.returnType = ret ∧ meth.name = nm
theorem gx_C.b {cc : ByteArray} {nL : Nat} {own nm : String} {l : Launch} {R : Room} {K : gx_K} {ret : Option FieldType} {Post : Option Value → va_W → Prop} {G : gx_J} (C : gx_C cc nL own nm l R K ret Post G) : gx_B cc nL own l R K G := by
  obtain ⟨p, e, s, m, args, below, meth, c, A, hG, hx, hb, hml, hown, hts, hK, hA, hX, -⟩ := C
  exact ⟨p, e, s, m, args, below, meth, c, A, _, hG, hx, hb, hml, hown, hts, hK, hA, hX⟩
theorem gx_of {l : Launch} {K : gx_K} {y : MethodName} {cc : ByteArray} {nL : Nat} {ret : Option FieldType} {rm : Room} {av : List Value} {W0 : va_W} {Post : Option Value → va_W → Prop} (hy : plainName y.cls = true) (hn : (lg_sl av).length ≤ nL)
    (body : ∀ G : gx_J, gx_C cc nL y.cls y.name l rm K ret Post G → G 0 0 W0 (lv_args 0 av) 0 []) : gx_Ctr l K y cc nL ret rm av W0 Post := by
  intro sz
  refine Met.ofW (cc := cc) (maxL := nL) (ret := ret) hy rfl ?_
  intro p e s m args below meth c s₁ B hml hv
  obtain ⟨rfl, hsz, hP, hK, hD0, hX⟩ := hv
  subst hsz
  have hl := lv_entry av (n := nL) hn
  rw [lg_entry_eq]
  exact body _ ⟨p, e, s, m, av.toArray, below, meth, c, va_A W0 s.heap.size, rfl, B.exec, B.bytes, hml, findClass_of_methodNamed B.named, fun w hw => atoms_spec (ws := Cond.code y cc nL ret :: gx_TB) B.pre w (List.mem_cons_of_mem _ hw), hK, fun q h => Or.inr h, hX, B.notSynchronized, B.returns, (name_of_methodNamed B.named B.method).1⟩ s.heap [] _ hP hD0.self va_S.rf hl
section GX
variable {cc : ByteArray} {nL : Nat} {own nm : String} {l : Launch} {R : Room} {K : gx_K} {ret : Option FieldType} {Post : Option Value → va_W → Prop} {G : gx_J} {k n pc : Nat} {ws : va_W} {lv : List (Nat × Value)} {st : List Value}
-- ends
theorem gx_iret (C : gx_C cc nL own nm l R K (some .int) Post G) (hd : decode cc pc = .ok (.ireturn, 1)) (hk : k ≤ R.cells) (hn : n ≤ R.slots) {v : Int32} (hp : Post (some (.int v)) ws) : G k n ws lv pc [.int v] := by
  obtain ⟨p, e, s, m, args, below, meth, c, A, rfl, hx, hb, hml, hown, hts, hK, hA, hX, hlocks, hr, -⟩ := C
  intro H locs ls hP hD hS hl
  refine W.widen hk hn ?_
  exact W.iret (v := v) hx hb hr (fun t ht hW => ⟨⟨_, ws, rfl, hp, by rw [ht]; exact hP, va_K.moved hW.alike hK, hD⟩, hS.F ht⟩) hS.2.2 hd hlocks
theorem gx_zret (C : gx_C cc nL own nm l R K (some .boolean) Post G) (hd : decode cc pc = .ok (.ireturn, 1)) (hk : k ≤ R.cells) (hn : n ≤ R.slots) {v : Int32} (hv : v = 0 ∨ v = 1) (hp : Post (some (.int v)) ws) : G k n ws lv pc [.int v] := by
  obtain ⟨p, e, s, m, args, below, meth, c, A, rfl, hx, hb, hml, hown, hts, hK, hA, hX, hlocks, hr, -⟩ := C
  intro H locs ls hP hD hS hl
  refine W.widen hk hn ?_
  exact W.zret (v := v) (ty := .boolean) hx hb hr (by rcases hv with rfl | rfl <;> decide +kernel) (fun t ht hW => ⟨⟨_, ws, rfl, hp, by rw [ht]; exact hP, va_K.moved hW.alike hK, hD⟩, hS.F ht⟩) hS.2.2 hd hlocks
theorem gx_cret (C : gx_C cc nL own nm l R K (some .char) Post G) (hd : decode cc pc = .ok (.ireturn, 1)) (hk : k ≤ R.cells) (hn : n ≤ R.slots) {v : Int32} (hv : narrow .char (.int v) = .int v) (hp : Post (some (.int v)) ws) : G k n ws lv pc [.int v] := by
  obtain ⟨p, e, s, m, args, below, meth, c, A, rfl, hx, hb, hml, hown, hts, hK, hA, hX, hlocks, hr, -⟩ := C
  intro H locs ls hP hD hS hl
  refine W.widen hk hn ?_
  exact W.zret (v := v) (ty := .char) hx hb hr hv (fun t ht hW => ⟨⟨_, ws, rfl, hp, by rw [ht]; exact hP, va_K.moved hW.alike hK, hD⟩, hS.F ht⟩) hS.2.2 hd hlocks
theorem gx_vret (C : gx_C cc nL own nm l R K none Post G) (hd : decode cc pc = .ok (.return_, 1)) (hk : k ≤ R.cells) (hn : n ≤ R.slots) (hp : Post none ws) : G k n ws lv pc [] := by
  obtain ⟨p, e, s, m, args, below, meth, c, A, rfl, hx, hb, hml, hown, hts, hK, hA, hX, hlocks, hr, -⟩ := C
  intro H locs ls hP hD hS hl
  refine W.widen hk hn ?_
  exact W.vret hx hb hr (fun t ht hW => ⟨⟨_, ws, rfl, hp, by rw [ht]; exact hP, va_K.moved hW.alike hK, hD⟩, hS.F ht⟩) hS.2.2 hd hlocks
theorem gx_aret (C : gx_C cc nL own nm l R K ret Post G) (hd : decode cc pc = .ok (.areturn, 1)) (hk : k ≤ R.cells) (hn : n ≤ R.slots) {rt : String} (hrt : ret = some (.object rt)) {a : Nat} (hp : Post (some (.ref a)) ws) : G k n ws lv pc [.ref a] := by
  obtain ⟨p, e, s, m, args, below, meth, c, A, rfl, hx, hb, hml, hown, hts, hK, hA, hX, hlocks, hr, -⟩ := C
  intro H locs ls hP hD hS hl
  refine W.widen hk hn ?_
  exact W.aret (v := .ref a) hx hb (hr.trans hrt) (Or.inl ⟨_, rfl⟩) (Or.inr ⟨_, rfl⟩) (fun t ht hW => ⟨⟨_, ws, rfl, hp, by rw [ht]; exact hP, va_K.moved hW.alike hK, hD⟩, hS.F ht⟩) hS.2.2 hd hlocks
-- shaping
theorem gx_top {x y : Int32} (h : x = y) (kk : G k n ws lv pc (.int y :: st)) : G k n ws lv pc (.int x :: st) := by rw [h]; exact kk
theorem gx_st {st' : List Value} (h : st = st') (kk : G k n ws lv pc st') : G k n ws lv pc st := by rw [h]; exact kk
theorem gx_ws {ws' : va_W} (h : ws = ws') (kk : G k n ws' lv pc st) : G k n ws lv pc st := by rw [h]; exact kk
theorem gx_sub (B : gx_B cc nL own l R K G) {lv' : List (Nat × Value)} (is : List Nat) (h : lv_pick lv is = lv') (kk : G k n ws lv' pc st) : G k n ws lv pc st := by
  obtain ⟨p, e, s, m, args, below, meth, c, A, Q, rfl, hx, hb, hml, hown, hts, hK, hA, hX⟩ := B
  intro H locs ls hP hD hS hl
  exact kk H locs ls hP hD hS (lv_sub hl is h)
theorem gx_perm (B : gx_B cc nL own l R K G) {ws' : va_W} (is : List Nat) (hn : va_nd is = true) (h : is.map (fun i => ws[i]?) = ws'.map some) (kk : G k n ws' lv pc st) : G k n ws lv pc st := by
  obtain ⟨p, e, s, m, args, below, meth, c, A, Q, rfl, hx, hb, hml, hown, hts, hK, hA, hX⟩ := B
  intro H locs ls hP hD hS hl
  refine kk H locs ls (fun j q hq => ?_) (hD.sub is hn h) hS hl
  have h1 : (is.map (fun i => ws[i]?))[j]? = some (some q) := by rw [h, List.getElem?_map, hq]; rfl
  rw [List.getElem?_map] at h1
  cases hi : is[j]? with
  | none => rw [hi] at h1; cases h1
  | some i => rw [hi] at h1; exact hP i q (Option.some.inj h1)
theorem gx_widen (B : gx_B cc nL own l R K G) {k' n' : Nat} (hk : k ≤ k') (hn : n ≤ n') (kk : G k' n' ws lv pc st) : G k n ws lv pc st := by
  obtain ⟨p, e, s, m, args, below, meth, c, A, Q, rfl, hx, hb, hml, hown, hts, hK, hA, hX⟩ := B
  intro H locs ls hP hD hS hl
  exact W.widen hk hn (kk H locs ls hP hD hS hl)
-- constants, places, arithmetic
theorem gx_iconst (B : gx_B cc nL own l R K G) {z : Int} (hd : decode cc pc = .ok (.iconst z, 1)) (v : Int32) (hv : Int32.ofInt z = v) (kk : G k n ws lv (pc + 1) (.int v :: st)) : G k n ws lv pc st := by
  obtain ⟨p, e, s, m, args, below, meth, c, A, Q, rfl, hx, hb, hml, hown, hts, hK, hA, hX⟩ := B
  intro H locs ls hP hD hS hl
  exact lv_iconst hx hb hd hv (kk H locs ls hP hD hS hl)
theorem gx_bipush (B : gx_B cc nL own l R K G) {z : Int} (hd : decode cc pc = .ok (.bipush z, 2)) (v : Int32) (hv : (Int8.ofInt z).toInt32 = v) (kk : G k n ws lv (pc + 2) (.int v :: st)) : G k n ws lv pc st := by
  obtain ⟨p, e, s, m, args, below, meth, c, A, Q, rfl, hx, hb, hml, hown, hts, hK, hA, hX⟩ := B
  intro H locs ls hP hD hS hl
  exact lv_bipush hx hb hd hv (kk H locs ls hP hD hS hl)
theorem gx_sipush (B : gx_B cc nL own l R K G) {z : Int} (hd : decode cc pc = .ok (.sipush z, 3)) (v : Int32) (hv : (Int16.ofInt z).toInt32 = v) (kk : G k n ws lv (pc + 3) (.int v :: st)) : G k n ws lv pc st := by
  obtain ⟨p, e, s, m, args, below, meth, c, A, Q, rfl, hx, hb, hml, hown, hts, hK, hA, hX⟩ := B
  intro H locs ls hP hD hS hl
  exact lv_sipush hx hb hd hv (kk H locs ls hP hD hS hl)
theorem gx_ldc (B : gx_B cc nL own l R K G) {ix : Nat} {v : Int32} (hd : decode cc pc = .ok (.ldc ix, 2)) (hc : Jvm.Cond.constant own ix v ∈ gx_TB) (kk : G k n ws lv (pc + 2) (.int v :: st)) : G k n ws lv pc st := by
  obtain ⟨p, e, s, m, args, below, meth, c, A, Q, rfl, hx, hb, hml, hown, hts, hK, hA, hX⟩ := B
  intro H locs ls hP hD hS hl
  exact lv_ldc hx hb hown (hts _ hc) hd (kk H locs ls hP hD hS hl)
theorem gx_iload_n (B : gx_B cc nL own l R K G) {i : Fin 4} (hd : decode cc pc = .ok (.iload_n i, 1)) (q : Nat) {x : Int32} (hq : lv[q]? = some ((i : Nat), .int x)) (kk : G k n ws lv (pc + 1) (.int x :: st)) : G k n ws lv pc st := by
  obtain ⟨p, e, s, m, args, below, meth, c, A, Q, rfl, hx, hb, hml, hown, hts, hK, hA, hX⟩ := B
  intro H locs ls hP hD hS hl
  exact lv_iload_n hx hb hd rfl (lv_at hl q hq) (kk H locs ls hP hD hS hl)
theorem gx_iload (B : gx_B cc nL own l R K G) {i : Nat} (hd : decode cc pc = .ok (.iload i, 2)) (q : Nat) {x : Int32} (hq : lv[q]? = some (i, .int x)) (kk : G k n ws lv (pc + 2) (.int x :: st)) : G k n ws lv pc st := by
  obtain ⟨p, e, s, m, args, below, meth, c, A, Q, rfl, hx, hb, hml, hown, hts, hK, hA, hX⟩ := B
  intro H locs ls hP hD hS hl
  exact lv_iload hx hb hd (lv_at hl q hq) (kk H locs ls hP hD hS hl)
theorem gx_aload_n (B : gx_B cc nL own l R K G) {i : Fin 4} (hd : decode cc pc = .ok (.aload_n i, 1)) (q : Nat) {x : Nat} (hq : lv[q]? = some ((i : Nat), .ref x)) (kk : G k n ws lv (pc + 1) (.ref x :: st)) : G k n ws lv pc st := by
  obtain ⟨p, e, s, m, args, below, meth, c, A, Q, rfl, hx, hb, hml, hown, hts, hK, hA, hX⟩ := B
  intro H locs ls hP hD hS hl
  exact lv_aload_n hx hb hd rfl (lv_at hl q hq) (kk H locs ls hP hD hS hl)
theorem gx_lload_n (B : gx_B cc nL own l R K G) {i : Fin 4} (hd : decode cc pc = .ok (.lload_n i, 1)) (q : Nat) {x : Int64} (hq : lv[q]? = some ((i : Nat), .long x)) (kk : G k n ws lv (pc + 1) (.long x :: st)) : G k n ws lv pc st := by
  obtain ⟨p, e, s, m, args, below, meth, c, A, Q, rfl, hx, hb, hml, hown, hts, hK, hA, hX⟩ := B
  intro H locs ls hP hD hS hl
  exact lv_lload_n hx hb hd rfl (lv_at hl q hq) (kk H locs ls hP hD hS hl)
theorem gx_istore_n (B : gx_B cc nL own l R K G) {i : Fin 4} (hd : decode cc pc = .ok (.istore_n i, 1)) (hi : (i : Nat) < nL) {x : Int32} (lv' : List (Nat × Value)) (hv : ((i : Nat), Value.int x) :: lv.filter (fun q => !(q.1 == (i : Nat)) && !(q.1 + 1 == (i : Nat) && q.2.category == 2)) = lv') (kk : G k n ws lv' (pc + 1) st) : G k n ws lv pc (.int x :: st) := by
  obtain ⟨p, e, s, m, args, below, meth, c, A, Q, rfl, hx, hb, hml, hown, hts, hK, hA, hX⟩ := B
  intro H locs ls hP hD hS hl
  exact lv_istore_n hx hb hd rfl hl hi hv (fun ls' hl' => kk H locs ls' hP hD hS hl')
theorem gx_istore (B : gx_B cc nL own l R K G) {i : Nat} (hd : decode cc pc = .ok (.istore i, 2)) (hi : i < nL) {x : Int32} (lv' : List (Nat × Value)) (hv : (i, Value.int x) :: lv.filter (fun q => !(q.1 == i) && !(q.1 + 1 == i && q.2.category == 2)) = lv') (kk : G k n ws lv' (pc + 2) st) : G k n ws lv pc (.int x :: st) := by
  obtain ⟨p, e, s, m, args, below, meth, c, A, Q, rfl, hx, hb, hml, hown, hts, hK, hA, hX⟩ := B
  intro H locs ls hP hD hS hl
  exact lv_istore hx hb hd hl hi hv (fun ls' hl' => kk H locs ls' hP hD hS hl')
theorem gx_astore_n (B : gx_B cc nL own l R K G) {i : Fin 4} (hd : decode cc pc = .ok (.astore_n i, 1)) (hi : (i : Nat) < nL) {x : Nat} (lv' : List (Nat × Value)) (hv : ((i : Nat), Value.ref x) :: lv.filter (fun q => !(q.1 == (i : Nat)) && !(q.1 + 1 == (i : Nat) && q.2.category == 2)) = lv') (kk : G k n ws lv' (pc + 1) st) : G k n ws lv pc (.ref x :: st) := by
  obtain ⟨p, e, s, m, args, below, meth, c, A, Q, rfl, hx, hb, hml, hown, hts, hK, hA, hX⟩ := B
  intro H locs ls hP hD hS hl
  exact lv_astore_n hx hb hd rfl hl hi hv (fun ls' hl' => kk H locs ls' hP hD hS hl')
theorem gx_iinc (B : gx_B cc nL own l R K G) {i : Nat} {z : Int} (hd : decode cc pc = .ok (.iinc i z, 3)) (q : Nat) (hi : i < nL) {x : Int32} (hq : lv[q]? = some (i, .int x)) (v : Int32) (hv : x + Int32.ofInt z = v) (lv' : List (Nat × Value)) (hl' : (i, Value.int v) :: lv.filter (fun q => !(q.1 == i) && !(q.1 + 1 == i && q.2.category == 2)) = lv') (kk : G k n ws lv' (pc + 3) st) : G k n ws lv pc st := by
  obtain ⟨p, e, s, m, args, below, meth, c, A, Q, rfl, hx, hb, hml, hown, hts, hK, hA, hX⟩ := B
  intro H locs ls hP hD hS hl
  exact lv_iinc hx hb hd hl (k := q) hq hv hi hl' (fun ls' h2 => kk H locs ls' hP hD hS h2)
theorem gx_iadd (B : gx_B cc nL own l R K G) (hd : decode cc pc = .ok (.iadd, 1)) {x y : Int32} (kk : G k n ws lv (pc + 1) (.int (x + y) :: st)) : G k n ws lv pc (.int y :: .int x :: st) := by
  obtain ⟨p, e, s, m, args, below, meth, c, A, Q, rfl, hx, hb, hml, hown, hts, hK, hA, hX⟩ := B
  intro H locs ls hP hD hS hl
  exact lv_iadd hx hb hd (kk H locs ls hP hD hS hl)
theorem gx_isub (B : gx_B cc nL own l R K G) (hd : decode cc pc = .ok (.isub, 1)) {x y : Int32} (kk : G k n ws lv (pc + 1) (.int (x - y) :: st)) : G k n ws lv pc (.int y :: .int x :: st) := by
  obtain ⟨p, e, s, m, args, below, meth, c, A, Q, rfl, hx, hb, hml, hown, hts, hK, hA, hX⟩ := B
  intro H locs ls hP hD hS hl
  exact lv_isub hx hb hd (kk H locs ls hP hD hS hl)
theorem gx_imul (B : gx_B cc nL own l R K G) (hd : decode cc pc = .ok (.imul, 1)) {x y : Int32} (kk : G k n ws lv (pc + 1) (.int (x * y) :: st)) : G k n ws lv pc (.int y :: .int x :: st) := by
  obtain ⟨p, e, s, m, args, below, meth, c, A, Q, rfl, hx, hb, hml, hown, hts, hK, hA, hX⟩ := B
  intro H locs ls hP hD hS hl
  exact lv_imul hx hb hd (kk H locs ls hP hD hS hl)
theorem gx_iand (B : gx_B cc nL own l R K G) (hd : decode cc pc = .ok (.iand, 1)) {x y : Int32} (kk : G k n ws lv (pc + 1) (.int (x &&& y) :: st)) : G k n ws lv pc (.int y :: .int x :: st) := by
  obtain ⟨p, e, s, m, args, below, meth, c, A, Q, rfl, hx, hb, hml, hown, hts, hK, hA, hX⟩ := B
  intro H locs ls hP hD hS hl
  exact lv_iand hx hb hd (kk H locs ls hP hD hS hl)
theorem gx_ior (B : gx_B cc nL own l R K G) (hd : decode cc pc = .ok (.ior, 1)) {x y : Int32} (kk : G k n ws lv (pc + 1) (.int (x ||| y) :: st)) : G k n ws lv pc (.int y :: .int x :: st) := by
  obtain ⟨p, e, s, m, args, below, meth, c, A, Q, rfl, hx, hb, hml, hown, hts, hK, hA, hX⟩ := B
  intro H locs ls hP hD hS hl
  exact lv_ior hx hb hd (kk H locs ls hP hD hS hl)
theorem gx_ishl (B : gx_B cc nL own l R K G) (hd : decode cc pc = .ok (.ishl, 1)) {x y : Int32} (kk : G k n ws lv (pc + 1) (.int (x <<< (y &&& 31)) :: st)) : G k n ws lv pc (.int y :: .int x :: st) := by
  obtain ⟨p, e, s, m, args, below, meth, c, A, Q, rfl, hx, hb, hml, hown, hts, hK, hA, hX⟩ := B
  intro H locs ls hP hD hS hl
  exact lv_ishl hx hb hd (kk H locs ls hP hD hS hl)
theorem gx_idiv (B : gx_B cc nL own l R K G) (hd : decode cc pc = .ok (.idiv, 1)) {x y : Int32} (hne : ¬ y = 0) (kk : G k n ws lv (pc + 1) (.int (x / y) :: st)) : G k n ws lv pc (.int y :: .int x :: st) := by
  obtain ⟨p, e, s, m, args, below, meth, c, A, Q, rfl, hx, hb, hml, hown, hts, hK, hA, hX⟩ := B
  intro H locs ls hP hD hS hl
  exact lv_idiv hx hb hd hne (kk H locs ls hP hD hS hl)
theorem gx_irem (B : gx_B cc nL own l R K G) (hd : decode cc pc = .ok (.irem, 1)) {x y : Int32} (hne : ¬ y = 0) (kk : G k n ws lv (pc + 1) (.int (x - x / y * y) :: st)) : G k n ws lv pc (.int y :: .int x :: st) := by
  obtain ⟨p, e, s, m, args, below, meth, c, A, Q, rfl, hx, hb, hml, hown, hts, hK, hA, hX⟩ := B
  intro H locs ls hP hD hS hl
  exact lv_irem hx hb hd hne (kk H locs ls hP hD hS hl)
theorem gx_ineg (B : gx_B cc nL own l R K G) (hd : decode cc pc = .ok (.ineg, 1)) {x : Int32} (kk : G k n ws lv (pc + 1) (.int (-x) :: st)) : G k n ws lv pc (.int x :: st) := by
  obtain ⟨p, e, s, m, args, below, meth, c, A, Q, rfl, hx, hb, hml, hown, hts, hK, hA, hX⟩ := B
  intro H locs ls hP hD hS hl
  exact lv_ineg hx hb hd (kk H locs ls hP hD hS hl)
theorem gx_dup (B : gx_B cc nL own l R K G) (hd : decode cc pc = .ok (.dup, 1)) {v : Value} (hc : v.category = 1) (kk : G k n ws lv (pc + 1) (v :: v :: st)) : G k n ws lv pc (v :: st) := by
  obtain ⟨p, e, s, m, args, below, meth, c, A, Q, rfl, hx, hb, hml, hown, hts, hK, hA, hX⟩ := B
  intro H locs ls hP hD hS hl
  exact lv_dup hx hb hd hc (kk H locs ls hP hD hS hl)
theorem gx_dup2 (B : gx_B cc nL own l R K G) (hd : decode cc pc = .ok (.dup2, 1)) {v u : Value} (hc : v.category = 1) (hc2 : u.category = 1) (kk : G k n ws lv (pc + 1) (v :: u :: v :: u :: st)) : G k n ws lv pc (v :: u :: st) := by
  obtain ⟨p, e, s, m, args, below, meth, c, A, Q, rfl, hx, hb, hml, hown, hts, hK, hA, hX⟩ := B
  intro H locs ls hP hD hS hl
  exact lv_dup2_11 hx hb hd hc hc2 (kk H locs ls hP hD hS hl)
theorem gx_pop (B : gx_B cc nL own l R K G) (hd : decode cc pc = .ok (.pop, 1)) {v : Value} (hc : v.category = 1) (kk : G k n ws lv (pc + 1) st) : G k n ws lv pc (v :: st) := by
  obtain ⟨p, e, s, m, args, below, meth, c, A, Q, rfl, hx, hb, hml, hown, hts, hK, hA, hX⟩ := B
  intro H locs ls hP hD hS hl
  exact lv_pop hx hb hd hc (kk H locs ls hP hD hS hl)
theorem gx_i2c (B : gx_B cc nL own l R K G) (hd : decode cc pc = .ok (.i2c, 1)) {x : Int32} (v : Int32) (hv : (x.toUInt32 % 65536).toInt32 = v) (kk : G k n ws lv (pc + 1) (.int v :: st)) : G k n ws lv pc (.int x :: st) := by
  obtain ⟨p, e, s, m, args, below, meth, c, A, Q, rfl, hx, hb, hml, hown, hts, hK, hA, hX⟩ := B
  intro H locs ls hP hD hS hl
  exact lv_i2c hx hb hd hv (kk H locs ls hP hD hS hl)
-- jumps
theorem gx_goto (B : gx_B cc nL own l R K G) {off : Int} (tgt : Nat) (hd : decode cc pc = .ok (.goto off, 3)) (ht : (pc : Int) + off = (tgt : Int)) (kk : G k n ws lv tgt st) : G k n ws lv pc st := by
  obtain ⟨p, e, s, m, args, below, meth, c, A, Q, rfl, hx, hb, hml, hown, hts, hK, hA, hX⟩ := B
  intro H locs ls hP hD hS hl
  exact lv_goto hx hb hd ht (kk H locs ls hP hD hS hl)
theorem gx_if_eq (B : gx_B cc nL own l R K G) {off : Int} (tgt : Nat) (hd : decode cc pc = .ok (.ifCond .eq off, 3)) (ht : (pc : Int) + off = (tgt : Int)) {x : Int32} (kt : x = 0 → G k n ws lv tgt st) (kf : ¬ x = 0 → G k n ws lv (pc + 3) st) : G k n ws lv pc (.int x :: st) := by
  obtain ⟨p, e, s, m, args, below, meth, c, A, Q, rfl, hx, hb, hml, hown, hts, hK, hA, hX⟩ := B
  intro H locs ls hP hD hS hl
  exact lv_if_eq hx hb hd ht (fun h => kt h H locs ls hP hD hS hl) (fun h => kf h H locs ls hP hD hS hl)
theorem gx_if_ne (B : gx_B cc nL own l R K G) {off : Int} (tgt : Nat) (hd : decode cc pc = .ok (.ifCond .ne off, 3)) (ht : (pc : Int) + off = (tgt : Int)) {x : Int32} (kt : ¬ x = 0 → G k n ws lv tgt st) (kf : x = 0 → G k n ws lv (pc + 3) st) : G k n ws lv pc (.int x :: st) := by
  obtain ⟨p, e, s, m, args, below, meth, c, A, Q, rfl, hx, hb, hml, hown, hts, hK, hA, hX⟩ := B
  intro H locs ls hP hD hS hl
  exact lv_if_ne hx hb hd ht (fun h => kt h H locs ls hP hD hS hl) (fun h => kf h H locs ls hP hD hS hl)
end GX
section GX2
variable {cc : ByteArray} {nL : Nat} {own nm : String} {l : Launch} {R : Room} {K : gx_K} {ret : Option FieldType} {Post : Option Value → va_W → Prop} {G : gx_J} {k n pc : Nat} {ws : va_W} {lv : List (Nat × Value)} {st : List Value}
theorem gx_if_lt (B : gx_B cc nL own l R K G) {off : Int} (tgt : Nat) (hd : decode cc pc = .ok (.ifCond .lt off, 3)) (ht : (pc : Int) + off = (tgt : Int)) {x : Int32} (kt : x < 0 → G k n ws lv tgt st) (kf : ¬ x < 0 → G k n ws lv (pc + 3) st) : G k n ws lv pc (.int x :: st) := by
  obtain ⟨p, e, s, m, args, below, meth, c, A, Q, rfl, hx, hb, hml, hown, hts, hK, hA, hX⟩ := B
  intro H locs ls hP hD hS hl
  exact lv_if_lt hx hb hd ht (fun h => kt h H locs ls hP hD hS hl) (fun h => kf h H locs ls hP hD hS hl)
theorem gx_if_ge (B : gx_B cc nL own l R K G) {off : Int} (tgt : Nat) (hd : decode cc pc = .ok (.ifCond .ge off, 3)) (ht : (pc : Int) + off = (tgt : Int)) {x : Int32} (kt : 0 ≤ x → G k n ws lv tgt st) (kf : ¬ 0 ≤ x → G k n ws lv (pc + 3) st) : G k n ws lv pc (.int x :: st) := by
  obtain ⟨p, e, s, m, args, below, meth, c, A, Q, rfl, hx, hb, hml, hown, hts, hK, hA, hX⟩ := B
  intro H locs ls hP hD hS hl
  exact lv_if_ge hx hb hd ht (fun h => kt h H locs ls hP hD hS hl) (fun h => kf h H locs ls hP hD hS hl)
theorem gx_if_gt (B : gx_B cc nL own l R K G) {off : Int} (tgt : Nat) (hd : decode cc pc = .ok (.ifCond .gt off, 3)) (ht : (pc : Int) + off = (tgt : Int)) {x : Int32} (kt : 0 < x → G k n ws lv tgt st) (kf : ¬ 0 < x → G k n ws lv (pc + 3) st) : G k n ws lv pc (.int x :: st) := by
  obtain ⟨p, e, s, m, args, below, meth, c, A, Q, rfl, hx, hb, hml, hown, hts, hK, hA, hX⟩ := B
  intro H locs ls hP hD hS hl
  exact lv_if_gt hx hb hd ht (fun h => kt h H locs ls hP hD hS hl) (fun h => kf h H locs ls hP hD hS hl)
theorem gx_if_le (B : gx_B cc nL own l R K G) {off : Int} (tgt : Nat) (hd : decode cc pc = .ok (.ifCond .le off, 3)) (ht : (pc : Int) + off = (tgt : Int)) {x : Int32} (kt : x ≤ 0 → G k n ws lv tgt st) (kf : ¬ x ≤ 0 → G k n ws lv (pc + 3) st) : G k n ws lv pc (.int x :: st) := by
  obtain ⟨p, e, s, m, args, below, meth, c, A, Q, rfl, hx, hb, hml, hown, hts, hK, hA, hX⟩ := B
  intro H locs ls hP hD hS hl
  exact lv_if_le hx hb hd ht (fun h => kt h H locs ls hP hD hS hl) (fun h => kf h H locs ls hP hD hS hl)
theorem gx_icmp_eq (B : gx_B cc nL own l R K G) {off : Int} (tgt : Nat) (hd : decode cc pc = .ok (.if_icmp .eq off, 3)) (ht : (pc : Int) + off = (tgt : Int)) {x y : Int32} (kt : x = y → G k n ws lv tgt st) (kf : ¬ x = y → G k n ws lv (pc + 3) st) : G k n ws lv pc (.int y :: .int x :: st) := by
  obtain ⟨p, e, s, m, args, below, meth, c, A, Q, rfl, hx, hb, hml, hown, hts, hK, hA, hX⟩ := B
  intro H locs ls hP hD hS hl
  exact lv_icmp_eq hx hb hd ht (fun h => kt h H locs ls hP hD hS hl) (fun h => kf h H locs ls hP hD hS hl)
theorem gx_icmp_lt (B : gx_B cc nL own l R K G) {off : Int} (tgt : Nat) (hd : decode cc pc = .ok (.if_icmp .lt off, 3)) (ht : (pc : Int) + off = (tgt : Int)) {x y : Int32} (kt : x < y → G k n ws lv tgt st) (kf : ¬ x < y → G k n ws lv (pc + 3) st) : G k n ws lv pc (.int y :: .int x :: st) := by
  obtain ⟨p, e, s, m, args, below, meth, c, A, Q, rfl, hx, hb, hml, hown, hts, hK, hA, hX⟩ := B
  intro H locs ls hP hD hS hl
  exact lv_icmp_lt hx hb hd ht (fun h => kt h H locs ls hP hD hS hl) (fun h => kf h H locs ls hP hD hS hl)
theorem gx_icmp_ge (B : gx_B cc nL own l R K G) {off : Int} (tgt : Nat) (hd : decode cc pc = .ok (.if_icmp .ge off, 3)) (ht : (pc : Int) + off = (tgt : Int)) {x y : Int32} (kt : y ≤ x → G k n ws lv tgt st) (kf : ¬ y ≤ x → G k n ws lv (pc + 3) st) : G k n ws lv pc (.int y :: .int x :: st) := by
  obtain ⟨p, e, s, m, args, below, meth, c, A, Q, rfl, hx, hb, hml, hown, hts, hK, hA, hX⟩ := B
  intro H locs ls hP hD hS hl
  exact lv_icmp_ge hx hb hd ht (fun h => kt h H locs ls hP hD hS hl) (fun h => kf h H locs ls hP hD hS hl)
theorem gx_icmp_gt (B : gx_B cc nL own l R K G) {off : Int} (tgt : Nat) (hd : decode cc pc = .ok (.if_icmp .gt off, 3)) (ht : (pc : Int) + off = (tgt : Int)) {x y : Int32} (kt : y < x → G k n ws lv tgt st) (kf : ¬ y < x → G k n ws lv (pc + 3) st) : G k n ws lv pc (.int y :: .int x :: st) := by
  obtain ⟨p, e, s, m, args, below, meth, c, A, Q, rfl, hx, hb, hml, hown, hts, hK, hA, hX⟩ := B
  intro H locs ls hP hD hS hl
  exact lv_icmp_gt hx hb hd ht (fun h => kt h H locs ls hP hD hS hl) (fun h => kf h H locs ls hP hD hS hl)
theorem gx_icmp_le (B : gx_B cc nL own l R K G) {off : Int} (tgt : Nat) (hd : decode cc pc = .ok (.if_icmp .le off, 3)) (ht : (pc : Int) + off = (tgt : Int)) {x y : Int32} (kt : x ≤ y → G k n ws lv tgt st) (kf : ¬ x ≤ y → G k n ws lv (pc + 3) st) : G k n ws lv pc (.int y :: .int x :: st) := by
  obtain ⟨p, e, s, m, args, below, meth, c, A, Q, rfl, hx, hb, hml, hown, hts, hK, hA, hX⟩ := B
  intro H locs ls hP hD hS hl
  exact lv_icmp_le hx hb hd ht (fun h => kt h H locs ls hP hD hS hl) (fun h => kf h H locs ls hP hD hS hl)
theorem gx_icmp_ne (B : gx_B cc nL own l R K G) {off : Int} (tgt : Nat) (hd : decode cc pc = .ok (.if_icmp .ne off, 3)) (ht : (pc : Int) + off = (tgt : Int)) {x y : Int32} (kt : ¬ x = y → G k n ws lv tgt st) (kf : x = y → G k n ws lv (pc + 3) st) : G k n ws lv pc (.int y :: .int x :: st) := by
  obtain ⟨p, e, s, m, args, below, meth, c, A, Q, rfl, hx, hb, hml, hown, hts, hK, hA, hX⟩ := B
  intro H locs ls hP hD hS hl
  exact lv_icmp_ne hx hb hd ht (fun h => kt h H locs ls hP hD hS hl) (fun h => kf h H locs ls hP hD hS hl)
theorem gx_tableIn (B : gx_B cc nL own l R K G) {dflt lo hi : Int} {offs : Array Int} {len : Nat} {x : Int32} {off : Int} (tgt : Nat) (hd : decode cc pc = .ok (.tableswitch dflt lo hi offs, len)) (h1 : ¬ x.toInt < lo) (h2 : ¬ hi < x.toInt) (ho : offs[(x.toInt - lo).toNat]? = some off) (ht : (pc : Int) + off = (tgt : Int)) (kk : G k n ws lv tgt st) : G k n ws lv pc (.int x :: st) := by
  obtain ⟨p, e, s, m, args, below, meth, c, A, Q, rfl, hx, hb, hml, hown, hts, hK, hA, hX⟩ := B
  intro H locs ls hP hD hS hl
  exact lv_tableIn hx hb hd h1 h2 ho ht (kk H locs ls hP hD hS hl)
theorem gx_tableOut (B : gx_B cc nL own l R K G) {dflt lo hi : Int} {offs : Array Int} {len : Nat} {x : Int32} (tgt : Nat) (hd : decode cc pc = .ok (.tableswitch dflt lo hi offs, len)) (h : x.toInt < lo ∨ hi < x.toInt) (ht : (pc : Int) + dflt = (tgt : Int)) (kk : G k n ws lv tgt st) : G k n ws lv pc (.int x :: st) := by
  obtain ⟨p, e, s, m, args, below, meth, c, A, Q, rfl, hx, hb, hml, hown, hts, hK, hA, hX⟩ := B
  intro H locs ls hP hD hS hl
  exact lv_tableOut hx hb hd h ht (kk H locs ls hP hD hS hl)
theorem gx_lookup (B : gx_B cc nL own l R K G) {dflt : Int} {ps : Array (Int × Int)} {len : Nat} {x : Int32} {off : Int} (tgt : Nat) (hd : decode cc pc = .ok (.lookupswitch dflt ps, len)) (hp : (ps.toList.zip (ps.toList.drop 1)).all (fun (a, next) => a.1 < next.1) = true) (ho : Op.lookupswitch.offset ps.toList dflt x.toInt = off) (ht : (pc : Int) + off = (tgt : Int)) (kk : G k n ws lv tgt st) : G k n ws lv pc (.int x :: st) := by
  obtain ⟨p, e, s, m, args, below, meth, c, A, Q, rfl, hx, hb, hml, hown, hts, hK, hA, hX⟩ := B
  intro H locs ls hP hD hS hl
  exact lv_lookup hx hb hd hp ho ht (kk H locs ls hP hD hS hl)
theorem gx_get (B : gx_B cc nL own l R K G) {ref Cn : String} {T : u_T} {N ci index a : Nat} (hd : decode cc pc = .ok (.getfield index, 3)) (hin : ∀ w ∈ u_ws Cn T N, w ∈ gx_TB) (hc : vwCl[ci]? = some (Cn, T, N)) (q : Nat) {fs : List Value} (he : ws[q]? = some (a, .inr (ci, fs))) (f : Nat) (hf : f < N) (hl1 : Cond.fieldLink own index ref (T f).2.1 (T f).2.2.1 ∈ gx_TB) (hr : (T f).1 = ref) {v : Value} (hv : fs[f]? = some v) (kk : G k n ws lv (pc + 3) (v :: st)) : G k n ws lv pc (.ref a :: st) := by
  obtain ⟨p, e, s, m, args, below, meth, c, A, Q, rfl, hx, hb, hml, hown, hts, hK, hA, hX⟩ := B
  intro H locs ls hP hD hS hl
  exact va_get hx hb hts hin hown hK hP q he hc f hf (hts _ hl1) (fun x h => by rw [← hr]; exact h) hv hd (kk H locs ls hP hD hS hl)
theorem gx_getN (B : gx_B cc nL own l R K G) {ref Cn host : String} {T : u_T} {N ci index a : Nat} (hd : decode cc pc = .ok (.getfield index, 3)) (hin : ∀ w ∈ u_ws Cn T N, w ∈ gx_TB) (hc : vwCl[ci]? = some (Cn, T, N)) (q : Nat) {fs : List Value} (he : ws[q]? = some (a, .inr (ci, fs))) (f : Nat) (hf : f < N) (hl1 : Cond.fieldLinkNest own index ref (T f).2.1 (T f).2.2.1 host ∈ gx_TB) (hr : (T f).1 = ref) {v : Value} (hv : fs[f]? = some v) (kk : G k n ws lv (pc + 3) (v :: st)) : G k n ws lv pc (.ref a :: st) := by
  obtain ⟨p, e, s, m, args, below, meth, c, A, Q, rfl, hx, hb, hml, hown, hts, hK, hA, hX⟩ := B
  intro H locs ls hP hD hS hl
  exact va_getN hx hb hts hin hown hK hP q he hc f hf (hts _ hl1) (fun x h => by rw [← hr]; exact h) hv hd (kk H locs ls hP hD hS hl)
theorem gx_put (B : gx_B cc nL own l R K G) {ref Cn : String} {T : u_T} {N ci index a : Nat} (hd : decode cc pc = .ok (.putfield index, 3)) (hin : ∀ w ∈ u_ws Cn T N, w ∈ gx_TB) (hc : vwCl[ci]? = some (Cn, T, N)) (ty0 : Nat → FieldType) (hty : ∀ j, j < N → parseFieldDescriptor (T j).2.2.1 = some (ty0 j)) (hnm : ∀ a, a < N → ∀ b, b < N → a ≠ b → (T a).2.1 ≠ (T b).2.1) (q : Nat) {fs : List Value} (he : ws[q]? = some (a, .inr (ci, fs))) (f : Nat) (hf : f < N) (hl1 : Cond.fieldLink own index ref (T f).2.1 (T f).2.2.1 ∈ gx_TB) (hr : (T f).1 = ref) (hfin : (T f).2.2.2 = false) {v : Value} (hn : narrow (ty0 f) v = v) (hfit : fits (ty0 f) v = true) (hlen : f < fs.length) (ws' : va_W) (hw : ws.set q (a, .inr (ci, fs.set f v)) = ws') (kk : G k n ws' lv (pc + 3) st) : G k n ws lv pc (v :: .ref a :: st) := by
  obtain ⟨p, e, s, m, args, below, meth, c, A, Q, rfl, hx, hb, hml, hown, hts, hK, hA, hX⟩ := B
  intro H locs ls hP hD hS hl
  subst hw
  exact va_put hx hb hts hin ty0 hty hnm hown hK hP hD hS q he hc f hf (hts _ hl1) (fun x h => by rw [← hr]; exact h) hfin (hty f hf) hn hfit hlen hd (fun H1 locs1 hP hD hS => kk H1 locs1 ls hP hD hS hl)
theorem gx_putF (C : gx_C cc nL own "<init>" l R K ret Post G) {Cn : String} {T : u_T} {N ci index a : Nat} (hd : decode cc pc = .ok (.putfield index, 3)) (hin : ∀ w ∈ u_ws Cn T N, w ∈ gx_TB) (hc : vwCl[ci]? = some (Cn, T, N)) (ty0 : Nat → FieldType) (hty : ∀ j, j < N → parseFieldDescriptor (T j).2.2.1 = some (ty0 j)) (hnm : ∀ a, a < N → ∀ b, b < N → a ≠ b → (T a).2.1 ≠ (T b).2.1) (q : Nat) {fs : List Value} (he : ws[q]? = some (a, .inr (ci, fs))) (f : Nat) (hf : f < N) (hl1 : Cond.fieldLink own index own (T f).2.1 (T f).2.2.1 ∈ gx_TB) (hr : (T f).1 = own) (hfin : (T f).2.2.2 = true) {v : Value} (hn : narrow (ty0 f) v = v) (hfit : fits (ty0 f) v = true) (hlen : f < fs.length) (ws' : va_W) (hw : ws.set q (a, .inr (ci, fs.set f v)) = ws') (kk : G k n ws' lv (pc + 3) st) : G k n ws lv pc (v :: .ref a :: st) := by
  obtain ⟨p, e, s, m, args, below, meth, c, A, rfl, hx, hb, hml, hown, hts, hK, hA, hX, hlocks, hret, hnme⟩ := C
  intro H locs ls hP hD hS hl
  subst hw
  exact va_putF hx hb hts hin ty0 hty hnm hown hK hP hD hS q he hc f hf (hts _ hl1) (fun x h => by rw [← hr]; exact h) hfin hnme hr (hty f hf) hn hfit hlen hd (fun H1 locs1 hP hD hS => kk H1 locs1 ls hP hD hS hl)
theorem gx_iald (B : gx_B cc nL own l R K G) (hd : decode cc pc = .ok (.iaload, 1)) (q t : Nat) {cA : ClassId} {a N : Nat} {f : Nat → Int32} (ha : ws[q]? = some (a, .inl (cA, N, .inl f))) (ht : (gx_ty K)[t]? = some (cA, .int)) {i : Int32} (j : Nat) (hi : i = nI j) (hj : j < N) (hN : N < 2 ^ 31) (kk : G k n ws lv (pc + 1) (.int (f j) :: st)) : G k n ws lv pc (.int i :: .ref a :: st) := by
  obtain ⟨p, e, s, m, args, below, meth, c, A, Q, rfl, hx, hb, hml, hown, hts, hK, hA, hX⟩ := B
  intro H locs ls hP hD hS hl
  subst hi
  refine va_iald hx hb hK hP q t ha ht (vp_in_nI hj hN) hd ?_
  rw [nI_clamp (Nat.lt_trans hj hN)]
  exact kk H locs ls hP hD hS hl
theorem gx_cald (B : gx_B cc nL own l R K G) (hd : decode cc pc = .ok (.caload, 1)) (q t : Nat) {cA : ClassId} {a N : Nat} {f : Nat → Int32} (ha : ws[q]? = some (a, .inl (cA, N, .inl f))) (ht : (gx_ty K)[t]? = some (cA, .char)) {i : Int32} (j : Nat) (hi : i = nI j) (hj : j < N) (hN : N < 2 ^ 31) (kk : G k n ws lv (pc + 1) (.int (f j) :: st)) : G k n ws lv pc (.int i :: .ref a :: st) := by
  obtain ⟨p, e, s, m, args, below, meth, c, A, Q, rfl, hx, hb, hml, hown, hts, hK, hA, hX⟩ := B
  intro H locs ls hP hD hS hl
  subst hi
  refine va_cald hx hb hK hP q t ha ht (vp_in_nI hj hN) hd ?_
  rw [nI_clamp (Nat.lt_trans hj hN)]
  exact kk H locs ls hP hD hS hl
theorem gx_lald (B : gx_B cc nL own l R K G) (hd : decode cc pc = .ok (.laload, 1)) (q t : Nat) {cA : ClassId} {a N : Nat} {f : Nat → Int64} (ha : ws[q]? = some (a, .inl (cA, N, .inr (.inl f)))) (ht : (gx_ty K)[t]? = some (cA, .long)) {i : Int32} (j : Nat) (hi : i = nI j) (hj : j < N) (hN : N < 2 ^ 31) (kk : G k n ws lv (pc + 1) (.long (f j) :: st)) : G k n ws lv pc (.int i :: .ref a :: st) := by
  obtain ⟨p, e, s, m, args, below, meth, c, A, Q, rfl, hx, hb, hml, hown, hts, hK, hA, hX⟩ := B
  intro H locs ls hP hD hS hl
  subst hi
  refine va_lald hx hb hK hP q t ha ht (vp_in_nI hj hN) hd ?_
  rw [nI_clamp (Nat.lt_trans hj hN)]
  exact kk H locs ls hP hD hS hl
theorem gx_aald (B : gx_B cc nL own l R K G) (hd : decode cc pc = .ok (.aaload, 1)) (q t : Nat) {cA : ClassId} {a N : Nat} {f : Nat → Option Nat} (ha : ws[q]? = some (a, .inl (cA, N, .inr (.inr (.inr (.inr f)))))) (ht : (gx_ty K)[t]? = some (cA, .array .int)) {i : Int32} (j : Nat) (hi : i = nI j) (hj : j < N) (hN : N < 2 ^ 31) (kk : G k n ws lv (pc + 1) (va_rf (f j) :: st)) : G k n ws lv pc (.int i :: .ref a :: st) := by
  obtain ⟨p, e, s, m, args, below, meth, c, A, Q, rfl, hx, hb, hml, hown, hts, hK, hA, hX⟩ := B
  intro H locs ls hP hD hS hl
  subst hi
  have hc : (nI j).toNatClampNeg = j := nI_clamp (Nat.lt_trans hj hN)
  exact W.aald (v := va_rf (f j)) (ty := .array .int) hx hb (hP q _ ha) ((hK.2 t _ ht).1 N (fun j => va_rf (f j))) rfl (fun q => by cases q) (by show ¬ (nI j < 0 ∨ (arrV _ _ _).slots.size ≤ _); rw [arrV_size]; exact vp_in_nI hj hN) (by show (arrV _ _ _).slots[_]? = _; rw [hc, arrV_read _ _ hj]) rfl rfl hd (kk H locs ls hP hD hS hl)
theorem gx_iast (B : gx_B cc nL own l R K G) (hd : decode cc pc = .ok (.iastore, 1)) (q t : Nat) {cA : ClassId} {a N : Nat} {f : Nat → Int32} (ha : ws[q]? = some (a, .inl (cA, N, .inl f))) (ht : (gx_ty K)[t]? = some (cA, .int)) {i x : Int32} (j : Nat) (hi : i = nI j) (hj : j < N) (hN : N < 2 ^ 31) (ws' : va_W) (hw : ws.set q (a, .inl (cA, N, .inl (upd f j x))) = ws') (kk : G k n ws' lv (pc + 1) st) : G k n ws lv pc (.int x :: .int i :: .ref a :: st) := by
  obtain ⟨p, e, s, m, args, below, meth, c, A, Q, rfl, hx, hb, hml, hown, hts, hK, hA, hX⟩ := B
  intro H locs ls hP hD hS hl
  subst hi
  refine va_iast hx hb hK hP hD hS q t ha ht (vp_in_nI hj hN) hd (fun H1 locs1 hP hD hS => ?_)
  rw [nI_clamp (Nat.lt_trans hj hN), hw] at hP hD
  exact kk H1 locs1 ls hP hD hS hl
theorem gx_cast (B : gx_B cc nL own l R K G) (hd : decode cc pc = .ok (.castore, 1)) (q t : Nat) {cA : ClassId} {a N : Nat} {f : Nat → Int32} (ha : ws[q]? = some (a, .inl (cA, N, .inl f))) (ht : (gx_ty K)[t]? = some (cA, .char)) {i x : Int32} (j : Nat) (hi : i = nI j) (hj : j < N) (hN : N < 2 ^ 31) (hx0 : vp_nar .char x = x) (ws' : va_W) (hw : ws.set q (a, .inl (cA, N, .inl (upd f j x))) = ws') (kk : G k n ws' lv (pc + 1) st) : G k n ws lv pc (.int x :: .int i :: .ref a :: st) := by
  obtain ⟨p, e, s, m, args, below, meth, c, A, Q, rfl, hx, hb, hml, hown, hts, hK, hA, hX⟩ := B
  intro H locs ls hP hD hS hl
  subst hi
  refine va_cast hx hb hK hP hD hS q t ha ht (vp_in_nI hj hN) hd (fun H1 locs1 hP hD hS => ?_)
  rw [nI_clamp (Nat.lt_trans hj hN), hx0, hw] at hP hD
  exact kk H1 locs1 ls hP hD hS hl
theorem gx_last (B : gx_B cc nL own l R K G) (hd : decode cc pc = .ok (.lastore, 1)) (q t : Nat) {cA : ClassId} {a N : Nat} {f : Nat → Int64} (ha : ws[q]? = some (a, .inl (cA, N, .inr (.inl f)))) (ht : (gx_ty K)[t]? = some (cA, .long)) {i : Int32} {x : Int64} (j : Nat) (hi : i = nI j) (hj : j < N) (hN : N < 2 ^ 31) (ws' : va_W) (hw : ws.set q (a, .inl (cA, N, .inr (.inl (vp_updL f j x)))) = ws') (kk : G k n ws' lv (pc + 1) st) : G k n ws lv pc (.long x :: .int i :: .ref a :: st) := by
  obtain ⟨p, e, s, m, args, below, meth, c, A, Q, rfl, hx, hb, hml, hown, hts, hK, hA, hX⟩ := B
  intro H locs ls hP hD hS hl
  subst hi
  refine va_last hx hb hK hP hD hS q t ha ht (vp_in_nI hj hN) hd (fun H1 locs1 hP hD hS => ?_)
  rw [nI_clamp (Nat.lt_trans hj hN), hw] at hP hD
  exact kk H1 locs1 ls hP hD hS hl
theorem gx_alen (B : gx_B cc nL own l R K G) (hd : decode cc pc = .ok (.arraylength, 1)) (q t : Nat) {cA : ClassId} {a : Nat} {x : vp_A} (ha : ws[q]? = some (a, .inl (cA, x))) {ty : FieldType} (ht : (gx_ty K)[t]? = some (cA, ty)) (v : Int32) (hv : Int32.ofNat x.1 = v) (kk : G k n ws lv (pc + 1) (.int v :: st)) : G k n ws lv pc (.ref a :: st) := by
  obtain ⟨p, e, s, m, args, below, meth, c, A, Q, rfl, hx, hb, hml, hown, hts, hK, hA, hX⟩ := B
  intro H locs ls hP hD hS hl
  exact va_alen hx hb hK hP q t ha ht hv hd (kk H locs ls hP hD hS hl)
theorem gx_max (B : gx_B cc nL own l R K G) {index : Nat} (hd : decode cc pc = .ok (.invokestatic index, 3)) (h1 : Cond.methodLink own index Lib.Math.max.name ∈ gx_TB) (h2 : Cond.static Lib.Math.max.name ∈ gx_TB) (h3 : Cond.initialized "java/lang/Math" ∈ gx_TB) (h4 : Cond.code Lib.Math.max.name Lib.Math.max.code 2 (some .int) ∈ gx_TB) (h5 : 1 ≤ R.frames) (h6 : (st.map fun v => v.category).sum + 13 ≤ R.locals) (h7 : k ≤ R.cells) (h8 : n ≤ R.slots) {x y : Int32} (kk : G k n ws lv (pc + 3) (.int (if x < y then y else x) :: st)) : G k n ws lv pc (.int y :: .int x :: st) := by
  obtain ⟨p, e, s, m, args, below, meth, c, A, Q, rfl, hx, hb, hml, hown, hts, hK, hA, hX⟩ := B
  intro H locs ls hP hD hS hl
  exact va_mmax hx hb (hml.trans hl.1.symm) hown (hts _ h1) (hts _ h2) (hts _ h3) (hts _ h4) h5 h6 h7 h8 hd (kk H locs ls hP hD hS hl)
theorem gx_min (B : gx_B cc nL own l R K G) {index : Nat} (hd : decode cc pc = .ok (.invokestatic index, 3)) (h1 : Cond.methodLink own index Lib.Math.min.name ∈ gx_TB) (h2 : Cond.static Lib.Math.min.name ∈ gx_TB) (h3 : Cond.initialized "java/lang/Math" ∈ gx_TB) (h4 : Cond.code Lib.Math.min.name Lib.Math.min.code 2 (some .int) ∈ gx_TB) (h5 : 1 ≤ R.frames) (h6 : (st.map fun v => v.category).sum + 13 ≤ R.locals) (h7 : k ≤ R.cells) (h8 : n ≤ R.slots) {x y : Int32} (kk : G k n ws lv (pc + 3) (.int (if y < x then y else x) :: st)) : G k n ws lv pc (.int y :: .int x :: st) := by
  obtain ⟨p, e, s, m, args, below, meth, c, A, Q, rfl, hx, hb, hml, hown, hts, hK, hA, hX⟩ := B
  intro H locs ls hP hD hS hl
  exact va_mmin hx hb (hml.trans hl.1.symm) hown (hts _ h1) (hts _ h2) (hts _ h3) (hts _ h4) h5 h6 h7 h8 hd (kk H locs ls hP hD hS hl)
theorem gx_copyi (B : gx_B cc nL own l R K G) {index : Nat} (hd : decode cc pc = .ok (.invokestatic index, 3)) (h1 : Cond.methodLink own index arraycopyName ∈ gx_TB) (h2 : Cond.native arraycopyName ∈ gx_TB) (h3 : Cond.static arraycopyName ∈ gx_TB) (h4 : Cond.initialized "java/lang/System" ∈ gx_TB) (q0 q1 t : Nat) {a0 a1 N0 N1 : Nat} {cA : ClassId} {f g : Nat → Int32} (ha0 : ws[q0]? = some (a0, .inl (cA, N0, .inl f))) (ha1 : ws[q1]? = some (a1, .inl (cA, N1, .inl g))) (ht : (gx_ty K)[t]? = some (cA, .int)) {z : Int32} (N : Nat) (hz : z = nI N) (hN : N < 2 ^ 31) (h5 : N ≤ N0) (h6 : N ≤ N1) (h7 : 1 ≤ R.frames) (h8 : (st.map fun v => v.category).sum + (nativeFrameWords "java/lang/System" "arraycopy" 5 + 11) ≤ R.locals) (ws' : va_W) (hw : ws.set q1 (a1, .inl (cA, N1, .inl (va_cpy f g 0 0 N))) = ws') (kk : G k n ws' lv (pc + 3) st) : G k n ws lv pc (.int z :: .int 0 :: .ref a1 :: .int 0 :: .ref a0 :: st) := by
  obtain ⟨p, e, s, m, args, below, meth, c, A, Q, rfl, hx, hb, hml, hown, hts, hK, hA, hX⟩ := B
  intro H locs ls hP hD hS hl
  subst hz
  refine va_copyi hx hb (hml.trans hl.1.symm) hown (hts _ h1) (hts _ h2) (hts _ h3) (hts _ h4) hK hP hD hS q0 q1 t t ha0 ha1 ht ht rfl (sp := 0) (dp := 0) (n := nI N) (by decide) (by decide) (nI_pos hN) ?_ ?_ (fun i _ => rfl) h7 h8 hd (fun H1 locs1 hP hD hS => ?_)
  · rw [nI_clamp hN]
    show 0 + N ≤ N0
    omega
  · rw [nI_clamp hN]
    show 0 + N ≤ N1
    omega
  · rw [nI_clamp hN, show (0 : Int32).toNatClampNeg = 0 from rfl, hw] at hP hD
    exact kk H1 locs1 ls hP hD hS hl
/-- a list's places, read -/
theorem gx_fm {α : Type} {is : List Nat} {ws w : List α} (h : is.map (fun i => ws[i]?) = w.map some) : is.filterMap (fun i => ws[i]?) = w := by
  induction is generalizing w with
  | nil => cases w with
    | nil => rfl
    | cons a b => cases h
  | cons i is ih => cases w with
    | nil => cases h
    | cons a b =>
      simp only [List.map_cons, List.cons.injEq] at h
      rw [List.filterMap_cons, h.1]
      exact congrArg (a :: ·) (ih h.2)
theorem gx_blind {K : gx_K} {av : List Value} {sz : Nat} {W0 : va_W} : FrameBlind (va_Pc av (fun U => U.heap.size = sz ∧ va_P K.1 vwCl W0 U.heap ∧ va_K K.1 vwCl (gx_ty K) U ∧ va_D (fun _ => True) W0 ∧ gx_X K (va_A W0 sz) U U.heap)) := fun a U g mk q => by
  obtain ⟨q0, q1, qP, qK, qD, qX⟩ := q
  exact ⟨q0, q1, qP, va_K.moved (u := U) (U := U.calling g mk a) (Vm.Alike.refl U.vm) qK, qD, gx_X.same (u := U) (U := U.calling g mk a) rfl qX⟩
theorem gx_core {p : Program} {e : Env} {s : State} {m : MethodId} {args : Array Value} {below : List Frame} {meth : Method} {c : Code} {A : Nat → Prop} {Q : State → Prop} {mc' ms' : Nat} {a : Array Value} {W0 wr : va_W} {Post' : Option Value → va_W → Prop} {rest : List Value} {H : Heap} {locs : List Loc} {ls : Array Slot} (hA : ∀ q : Nat, s.heap.size ≤ q → A q) (hP : va_P K.1 vwCl ws H) (hD : va_D A ws) (hS : va_S A s.heap H locs) (hl : lv_has ls nL lv)
    (isC isR : List Nat) (hC : isC.map (fun i => ws[i]?) = W0.map some) (hR : isR.map (fun i => ws[i]?) = wr.map some) (hn : va_nd isR = true) (hdis : ∀ i ∈ isR, i ∉ isC)
    (hr : va_Run p l e R s m args below meth c H locs k n mc' ms' (F0 m pc ls st) rest (gx_Q K (va_A W0 H.size) Post' a) (va_A W0 H.size))
    (kk : ∀ (v : Option Value) (w : va_W), Post' v w → gx_W p l e R s m args below meth c K.1 A nL Q (k + mc') (n + ms') (wr ++ w) lv (pc + 3) (v.toList ++ rest)) : W p l e R s m args below meth c H locs k n Q (F0 m pc ls st) := by
  have hF := va_free hD hS hA isC hC
  intro T hT X
  obtain ⟨v, st₀, t, T', L, h0, X', hL, e1, e2, ⟨⟨v', w, hv, hp, hPw, hKw, hDw⟩, hz, hk⟩, stp⟩ := hr T hT X
  cases hv
  rw [h0] at hz hk
  rw [← e1] at hPw
  obtain ⟨hP1, hD1⟩ := va_join hP hD isC isR hC hR hn hdis (fun q h1 h2 => by rw [e1]; exact hk q h1 h2) hF hPw hDw
  obtain ⟨t2, a1, b1⟩ := kk v w hp T'.heap (locs ++ L) ls hP1 hD1
    ⟨Nat.le_trans hS.1 (by rw [e1]; exact hz), fun q h1 h2 => by rw [e1, hk q (Nat.lt_of_lt_of_le h1 hS.1) (fun z => h2 (hF q z))]; exact hS.2.1 q h1 h2, fun q hq => by
      rcases List.mem_append.mp hq with h | h
      · exact hS.2.2 q h
      · exact hF _ (hL q h)⟩ hl T' rfl X'
  exact ⟨t2, stp t2 a1, b1⟩
/-- a method that can be called on an object -/
def gx_M (y : MethodName) (bytes : ByteArray) (maxL : Nat) (ret' : Option FieldType) : Prop := Cond.instanceMethod y ∈ gx_TB ∧ Cond.selects y.cls y y ∈ gx_TB ∧ Cond.initialized y.cls ∈ gx_TB ∧ Cond.code y bytes maxL ret' ∈ gx_TB ∧ y.cls ≠ "java/lang/invoke/MethodHandle" ∧ y.cls ≠ "java/lang/invoke/VarHandle"
/-- a constructor -/
def gx_MI (y : MethodName) (bytes : ByteArray) (maxL : Nat) : Prop := Cond.instanceMethod y ∈ gx_TB ∧ Cond.initialized y.cls ∈ gx_TB ∧ Cond.code y bytes maxL none ∈ gx_TB ∧ y.cls ≠ "java/lang/invoke/MethodHandle" ∧ y.cls ≠ "java/lang/invoke/VarHandle" ∧ y.name = "<init>"
/-- a static method -/
def gx_MS (y : MethodName) (bytes : ByteArray) (maxL : Nat) (ret' : Option FieldType) : Prop := Cond.static y ∈ gx_TB ∧ Cond.initialized y.cls ∈ gx_TB ∧ Cond.code y bytes maxL ret' ∈ gx_TB ∧ y.cls ≠ "java/lang/invoke/MethodHandle" ∧ y.cls ≠ "java/lang/invoke/VarHandle"
theorem gx_good1 {ws1 : List Cond} {w0 : Cond} (h1 : ∀ w ∈ ws1, w ∈ gx_TB) (h0 : w0 ∈ gx_TB) : GoodIn gx_TB (ws1 ++ (w0 :: gx_TB)) := fun w hw => by
  rcases List.mem_append.mp hw with h | h
  · exact gx_TBgood w (h1 w h)
  · rcases List.mem_cons.mp h with h | h
    · rw [h]; exact gx_TBgood w0 h0
    · exact gx_TBgood w h
theorem gx_goodC {w0 : Cond} (h0 : w0 ∈ gx_TB) : GoodIn gx_TB (w0 :: gx_TB) := gx_good1 (ws1 := []) (fun _ h => absurd h List.not_mem_nil) h0
theorem gx_all3 {a b c : Cond} (ha : a ∈ gx_TB) (hb : b ∈ gx_TB) (hc : c ∈ gx_TB) : ∀ w ∈ ([a, b, c] : List Cond), w ∈ gx_TB := fun w h => by
  simp only [List.mem_cons, List.not_mem_nil, or_false] at h
  rcases h with rfl | rfl | rfl <;> assumption
theorem gx_all4 {a b c d : Cond} (ha : a ∈ gx_TB) (hb : b ∈ gx_TB) (hc : c ∈ gx_TB) (hd : d ∈ gx_TB) : ∀ w ∈ ([a, b, c, d] : List Cond), w ∈ gx_TB := fun w h => by
  simp only [List.mem_cons, List.not_mem_nil, or_false] at h
  rcases h with rfl | rfl | rfl | rfl <;> assumption
theorem gx_callV (B : gx_B cc nL own l R K G) {y : MethodName} {rm : Room} {Post' : Option Value → va_W → Prop} {W0 wr : va_W} {bytes : ByteArray} {maxL : Nat} {ret' : Option FieldType} {index : Nat} {rest : List Value} {b : Nat} {As : List Value} {T0 : u_T} {N0 ci : Nat} {fs : List Value} (hM : gx_Ctr l K y bytes maxL ret' rm (.ref b :: As) W0 Post') (hm : gx_M y bytes maxL ret') (hdg : decode cc pc = .ok (.invokevirtual index, 3)) (hlk : Cond.methodLink own index y ∈ gx_TB) (hnA : (parseMethodDescriptor y.desc).map (fun d => d.parameters.length) = some As.length) (hRm : rm.frames + 1 ≤ R.frames ∧ 8 + (maxL + 11) + rm.locals ≤ R.locals ∧ k + rm.cells ≤ R.cells ∧ n + rm.slots ≤ R.slots) (hst : st = As.reverse ++ .ref b :: rest) (hcat : (rest.map fun v => v.category).sum ≤ 8)
    (isC isR : List Nat) (hC : isC.map (fun i => ws[i]?) = W0.map some) (hR : isR.map (fun i => ws[i]?) = wr.map some) (hn : va_nd isR = true) (hdis : ∀ i ∈ isR, i ∉ isC) (hnC : va_nd isC = true) (hci : vwCl[ci]? = some (y.cls, T0, N0)) (hb0 : W0[0]? = some (b, .inr (ci, fs)))
    (kk : ∀ (v : Option Value) (w : va_W), Post' v w → G (k + rm.cells) (n + rm.slots) (wr ++ w) lv (pc + 3) (v.toList ++ rest)) : G k n ws lv pc st := by
  obtain ⟨p, e, s, m, args, below, meth, c, A, Q, rfl, hx, hb, hml, hown, hts, hK, hA, hX⟩ := B
  intro H locs ls hP hD hS hl
  obtain ⟨m1, m2, m3, m4, m5, m6⟩ := hm
  refine gx_core hA hP hD hS hl isC isR hC hR hn hdis (va_runV (As := As) (rest := rest) ⟨hx, hb, hml, hown, hts⟩ (hM H.size) (cwV As.length hts (gx_good1 (gx_all4 hlk m1 m2 m3) m4) rfl rfl rfl ⟨rfl, m5, m6, hnA⟩ ⟨hRm.1, hRm.2.1⟩) ⟨gx_blind, va_recv hK (hP.sub isC (gx_fm hC)) hci hb0, fun U hU hW2 => ⟨rfl, by rw [hU], by rw [hU]; exact hP.sub isC (gx_fm hC), va_K.moved hW2.alike hK, (hD.sub isC hnC hC).weaken (fun _ _ _ _ => trivial), by rw [hU]; exact hX.on hW2 hS.2.1 (va_free hD hS hA isC hC)⟩⟩ rfl rfl hl.1 hst (lv_room hcat) hdg hRm.2.2) kk
theorem gx_callS (B : gx_B cc nL own l R K G) {y : MethodName} {rm : Room} {Post' : Option Value → va_W → Prop} {W0 wr : va_W} {bytes : ByteArray} {maxL : Nat} {ret' : Option FieldType} {index : Nat} {rest : List Value} {As : List Value} (hM : gx_Ctr l K y bytes maxL ret' rm As W0 Post') (hm : gx_MS y bytes maxL ret') (hdg : decode cc pc = .ok (.invokestatic index, 3)) (hlk : Cond.methodLink own index y ∈ gx_TB) (hnA : (parseMethodDescriptor y.desc).map (fun d => d.parameters.length) = some As.length) (hRm : rm.frames + 1 ≤ R.frames ∧ 8 + (maxL + 11) + rm.locals ≤ R.locals ∧ k + rm.cells ≤ R.cells ∧ n + rm.slots ≤ R.slots) (hst : st = As.reverse ++ rest) (hcat : (rest.map fun v => v.category).sum ≤ 8)
    (isC isR : List Nat) (hC : isC.map (fun i => ws[i]?) = W0.map some) (hR : isR.map (fun i => ws[i]?) = wr.map some) (hn : va_nd isR = true) (hdis : ∀ i ∈ isR, i ∉ isC) (hnC : va_nd isC = true)
    (kk : ∀ (v : Option Value) (w : va_W), Post' v w → G (k + rm.cells) (n + rm.slots) (wr ++ w) lv (pc + 3) (v.toList ++ rest)) : G k n ws lv pc st := by
  obtain ⟨p, e, s, m, args, below, meth, c, A, Q, rfl, hx, hb, hml, hown, hts, hK, hA, hX⟩ := B
  intro H locs ls hP hD hS hl
  obtain ⟨m1, m3, m4, m5, m6⟩ := hm
  refine gx_core hA hP hD hS hl isC isR hC hR hn hdis (va_runS (As := As) (rest := rest) ⟨hx, hb, hml, hown, hts⟩ (hM H.size) (va_cwS As.length hts (gx_good1 (gx_all3 hlk m1 m3) m4) rfl rfl rfl ⟨m5, m6, hnA⟩ ⟨hRm.1, hRm.2.1⟩) ⟨gx_blind, fun U hU hW2 => ⟨rfl, by rw [hU], by rw [hU]; exact hP.sub isC (gx_fm hC), va_K.moved hW2.alike hK, (hD.sub isC hnC hC).weaken (fun _ _ _ _ => trivial), by rw [hU]; exact hX.on hW2 hS.2.1 (va_free hD hS hA isC hC)⟩⟩ rfl rfl hl.1 hst (lv_room hcat) hdg hRm.2.2) kk
theorem gx_callI (B : gx_B cc nL own l R K G) {y : MethodName} {rm : Room} {Post' : Option Value → va_W → Prop} {W0 wr : va_W} {bytes : ByteArray} {maxL : Nat} {index : Nat} {rest : List Value} {b : Nat} {As : List Value} (hM : gx_Ctr l K y bytes maxL none rm (.ref b :: As) W0 Post') (hm : gx_MI y bytes maxL) (hdg : decode cc pc = .ok (.invokespecial index, 3)) (hlk : Cond.methodLink own index y ∈ gx_TB) (hnA : (parseMethodDescriptor y.desc).map (fun d => d.parameters.length) = some As.length) (hRm : rm.frames + 1 ≤ R.frames ∧ 8 + (maxL + 11) + rm.locals ≤ R.locals ∧ k + rm.cells ≤ R.cells ∧ n + rm.slots ≤ R.slots) (hst : st = As.reverse ++ .ref b :: rest) (hcat : (rest.map fun v => v.category).sum ≤ 8)
    (isC isR : List Nat) (hC : isC.map (fun i => ws[i]?) = W0.map some) (hR : isR.map (fun i => ws[i]?) = wr.map some) (hn : va_nd isR = true) (hdis : ∀ i ∈ isR, i ∉ isC) (hnC : va_nd isC = true)
    (kk : ∀ (v : Option Value) (w : va_W), Post' v w → G (k + rm.cells) (n + rm.slots) (wr ++ w) lv (pc + 3) (v.toList ++ rest)) : G k n ws lv pc st := by
  obtain ⟨p, e, s, m, args, below, meth, c, A, Q, rfl, hx, hb, hml, hown, hts, hK, hA, hX⟩ := B
  intro H locs ls hP hD hS hl
  obtain ⟨m1, m3, m4, m5, m6, m7⟩ := hm
  refine gx_core hA hP hD hS hl isC isR hC hR hn hdis (va_runI (As := As) (rest := rest) ⟨hx, hb, hml, hown, hts⟩ (hM H.size) (cwI As.length hts (gx_goodC m4) rfl rfl rfl (hts _ m3) (hts _ hlk) (hts _ m1) m7 ⟨m5, m6, hnA⟩ ⟨hRm.1, hRm.2.1⟩) ⟨gx_blind, fun U hU hW2 => ⟨rfl, by rw [hU], by rw [hU]; exact hP.sub isC (gx_fm hC), va_K.moved hW2.alike hK, (hD.sub isC hnC hC).weaken (fun _ _ _ _ => trivial), by rw [hU]; exact hX.on hW2 hS.2.1 (va_free hD hS hA isC hC)⟩⟩ rfl rfl hl.1 hst (lv_room hcat) hdg hRm.2.2) kk
theorem gx_callSN0 (B : gx_B cc nL RX0 l R K G) {rm : Room} {Post' : Option Value → va_W → Prop} {W0 wr : va_W} {bytes : ByteArray} {maxL : Nat} {ret' : Option FieldType} {rest : List Value} {As : List Value} (hM : gx_Ctr l K yX4_within bytes maxL ret' rm As W0 Post') (hm : gx_MS yX4_within bytes maxL ret') (hdg : decode cc pc = .ok (.invokestatic 54, 3)) (hnA : As.length = 3) (hRm : rm.frames + 1 ≤ R.frames ∧ 8 + (maxL + 11) + rm.locals ≤ R.locals ∧ k + rm.cells ≤ R.cells ∧ n + rm.slots ≤ R.slots) (hst : st = As.reverse ++ rest) (hcat : (rest.map fun v => v.category).sum ≤ 8)
    (isC isR : List Nat) (hC : isC.map (fun i => ws[i]?) = W0.map some) (hR : isR.map (fun i => ws[i]?) = wr.map some) (hn : va_nd isR = true) (hdis : ∀ i ∈ isR, i ∉ isC) (hnC : va_nd isC = true)
    (kk : ∀ (v : Option Value) (w : va_W), Post' v w → G (k + rm.cells) (n + rm.slots) (wr ++ w) lv (pc + 3) (v.toList ++ rest)) : G k n ws lv pc st := by
  obtain ⟨p, e, s, m, args, below, meth, c, A, Q, rfl, hx, hb, hml, hown, hts, hK, hA, hX⟩ := B
  intro H locs ls hP hD hS hl
  obtain ⟨m1, m3, m4, m5, m6⟩ := hm
  refine gx_core hA hP hD hS hl isC isR hC hR hn hdis (va_runSN (As := As) (rest := rest) ⟨hx, hb, hml, hown, hts⟩ (hM H.size) ⟨va_cnB As.length hts (gx_goodC m4) rfl rfl rfl hX.1.2.2.1 (hts _ m3) ⟨m5, m6, by rw [hnA]; decide +kernel⟩ ⟨hRm.1, hRm.2.1⟩, hts _ m1, trivial⟩ ⟨gx_blind, fun U hU hW2 => ⟨rfl, by rw [hU], by rw [hU]; exact hP.sub isC (gx_fm hC), va_K.moved hW2.alike hK, (hD.sub isC hnC hC).weaken (fun _ _ _ _ => trivial), by rw [hU]; exact hX.on hW2 hS.2.1 (va_free hD hS hA isC hC)⟩⟩ rfl rfl hl.1 hst (lv_room hcat) hdg hRm.2.2) kk
theorem gx_callSN2 (B : gx_B cc nL RX2 l R K G) {rm : Room} {Post' : Option Value → va_W → Prop} {W0 wr : va_W} {bytes : ByteArray} {maxL : Nat} {ret' : Option FieldType} {rest : List Value} {As : List Value} (hM : gx_Ctr l K yX4_within bytes maxL ret' rm As W0 Post') (hm : gx_MS yX4_within bytes maxL ret') (hdg : decode cc pc = .ok (.invokestatic 35, 3)) (hnA : As.length = 3) (hRm : rm.frames + 1 ≤ R.frames ∧ 8 + (maxL + 11) + rm.locals ≤ R.locals ∧ k + rm.cells ≤ R.cells ∧ n + rm.slots ≤ R.slots) (hst : st = As.reverse ++ rest) (hcat : (rest.map fun v => v.category).sum ≤ 8)
    (isC isR : List Nat) (hC : isC.map (fun i => ws[i]?) = W0.map some) (hR : isR.map (fun i => ws[i]?) = wr.map some) (hn : va_nd isR = true) (hdis : ∀ i ∈ isR, i ∉ isC) (hnC : va_nd isC = true)
    (kk : ∀ (v : Option Value) (w : va_W), Post' v w → G (k + rm.cells) (n + rm.slots) (wr ++ w) lv (pc + 3) (v.toList ++ rest)) : G k n ws lv pc st := by
  obtain ⟨p, e, s, m, args, below, meth, c, A, Q, rfl, hx, hb, hml, hown, hts, hK, hA, hX⟩ := B
  intro H locs ls hP hD hS hl
  obtain ⟨m1, m3, m4, m5, m6⟩ := hm
  refine gx_core hA hP hD hS hl isC isR hC hR hn hdis (va_runSN (As := As) (rest := rest) ⟨hx, hb, hml, hown, hts⟩ (hM H.size) ⟨va_cnB As.length hts (gx_goodC m4) rfl rfl rfl hX.1.2.2.2 (hts _ m3) ⟨m5, m6, by rw [hnA]; decide +kernel⟩ ⟨hRm.1, hRm.2.1⟩, hts _ m1, trivial⟩ ⟨gx_blind, fun U hU hW2 => ⟨rfl, by rw [hU], by rw [hU]; exact hP.sub isC (gx_fm hC), va_K.moved hW2.alike hK, (hD.sub isC hnC hC).weaken (fun _ _ _ _ => trivial), by rw [hU]; exact hX.on hW2 hS.2.1 (va_free hD hS hA isC hC)⟩⟩ rfl rfl hl.1 hst (lv_room hcat) hdg hRm.2.2) kk
theorem gx_callIN1 (B : gx_B cc nL RX4 l R K G) {rm : Room} {Post' : Option Value → va_W → Prop} {W0 wr : va_W} {bytes : ByteArray} {maxL : Nat} {rest : List Value} {b : Nat} (hM : gx_Ctr l K yX1_init bytes maxL none rm [.ref b] W0 Post') (hm : gx_MI yX1_init bytes maxL) (hdg : decode cc pc = .ok (.invokespecial 23, 3)) (hRm : rm.frames + 1 ≤ R.frames ∧ 8 + (maxL + 11) + rm.locals ≤ R.locals ∧ k + rm.cells ≤ R.cells ∧ n + rm.slots ≤ R.slots) (hst : st = .ref b :: rest) (hcat : (rest.map fun v => v.category).sum ≤ 8)
    (isC isR : List Nat) (hC : isC.map (fun i => ws[i]?) = W0.map some) (hR : isR.map (fun i => ws[i]?) = wr.map some) (hn : va_nd isR = true) (hdis : ∀ i ∈ isR, i ∉ isC) (hnC : va_nd isC = true)
    (kk : ∀ (v : Option Value) (w : va_W), Post' v w → G (k + rm.cells) (n + rm.slots) (wr ++ w) lv (pc + 3) (v.toList ++ rest)) : G k n ws lv pc st := by
  obtain ⟨p, e, s, m, args, below, meth, c, A, Q, rfl, hx, hb, hml, hown, hts, hK, hA, hX⟩ := B
  intro H locs ls hP hD hS hl
  obtain ⟨m1, m3, m4, m5, m6, m7⟩ := hm
  refine gx_core hA hP hD hS hl isC isR hC hR hn hdis (va_runIN (As := []) (rest := rest) ⟨hx, hb, hml, hown, hts⟩ (hM H.size) ⟨va_cnB 0 hts (gx_goodC m4) rfl rfl rfl hX.1.1 (hts _ m3) ⟨m5, m6, by decide +kernel⟩ ⟨hRm.1, hRm.2.1⟩, m7, hts _ m1⟩ ⟨gx_blind, fun U hU hW2 => ⟨rfl, by rw [hU], by rw [hU]; exact hP.sub isC (gx_fm hC), va_K.moved hW2.alike hK, (hD.sub isC hnC hC).weaken (fun _ _ _ _ => trivial), by rw [hU]; exact hX.on hW2 hS.2.1 (va_free hD hS hA isC hC)⟩⟩ rfl rfl hl.1 hst (lv_room hcat) hdg hRm.2.2) kk
theorem gx_callIN2 (B : gx_B cc nL RX4 l R K G) {rm : Room} {Post' : Option Value → va_W → Prop} {W0 wr : va_W} {bytes : ByteArray} {maxL : Nat} {rest : List Value} {b : Nat} (hM : gx_Ctr l K yX2_init bytes maxL none rm [.ref b] W0 Post') (hm : gx_MI yX2_init bytes maxL) (hdg : decode cc pc = .ok (.invokespecial 30, 3)) (hRm : rm.frames + 1 ≤ R.frames ∧ 8 + (maxL + 11) + rm.locals ≤ R.locals ∧ k + rm.cells ≤ R.cells ∧ n + rm.slots ≤ R.slots) (hst : st = .ref b :: rest) (hcat : (rest.map fun v => v.category).sum ≤ 8)
    (isC isR : List Nat) (hC : isC.map (fun i => ws[i]?) = W0.map some) (hR : isR.map (fun i => ws[i]?) = wr.map some) (hn : va_nd isR = true) (hdis : ∀ i ∈ isR, i ∉ isC) (hnC : va_nd isC = true)
    (kk : ∀ (v : Option Value) (w : va_W), Post' v w → G (k + rm.cells) (n + rm.slots) (wr ++ w) lv (pc + 3) (v.toList ++ rest)) : G k n ws lv pc st := by
  obtain ⟨p, e, s, m, args, below, meth, c, A, Q, rfl, hx, hb, hml, hown, hts, hK, hA, hX⟩ := B
  intro H locs ls hP hD hS hl
  obtain ⟨m1, m3, m4, m5, m6, m7⟩ := hm
  refine gx_core hA hP hD hS hl isC isR hC hR hn hdis (va_runIN (As := []) (rest := rest) ⟨hx, hb, hml, hown, hts⟩ (hM H.size) ⟨va_cnB 0 hts (gx_goodC m4) rfl rfl rfl hX.1.2.1 (hts _ m3) ⟨m5, m6, by decide +kernel⟩ ⟨hRm.1, hRm.2.1⟩, m7, hts _ m1⟩ ⟨gx_blind, fun U hU hW2 => ⟨rfl, by rw [hU], by rw [hU]; exact hP.sub isC (gx_fm hC), va_K.moved hW2.alike hK, (hD.sub isC hnC hC).weaken (fun _ _ _ _ => trivial), by rw [hU]; exact hX.on hW2 hS.2.1 (va_free hD hS hA isC hC)⟩⟩ rfl rfl hl.1 hst (lv_room hcat) hdg hRm.2.2) kk
theorem gx_objInit (B : gx_B cc nL own l R K G) {index a : Nat} (hd : decode cc pc = .ok (.invokespecial index, 3)) (h1 : Cond.methodLink own index Lib.objectInit ∈ gx_TB) (h2 : Cond.instanceMethod Lib.objectInit ∈ gx_TB) (h3 : Cond.code Lib.objectInit ⟨#[0xb1]⟩ 1 none ∈ gx_TB) (h4 : 1 ≤ R.frames) (h5 : (st.map fun v => v.category).sum + 12 ≤ R.locals) (kk : G k n ws lv (pc + 3) st) : G k n ws lv pc (.ref a :: st) := by
  obtain ⟨p, e, s, m, args, below, meth, c, A, Q, rfl, hx, hb, hml, hown, hts, hK, hA, hX⟩ := B
  intro H locs ls hP hD hS hl
  refine W.objInit hx hb hown (hts _ h1) (hts _ h2) (hts _ h3) rfl (by rw [hml]; exact hl.1) rfl hd h4 ?_ (kk H locs ls hP hD hS hl)
  show 2 * 0 + _ + 12 ≤ _
  omega
theorem gx_new (B : gx_B cc nL own l R K G) {index : Nat} (hd : decode cc pc = .ok (.new index, 3)) (ci : Nat) {Cn : String} {T : u_T} {N : Nat} (hc : vwCl[ci]? = some (Cn, T, N)) (hin : ∀ w ∈ u_ws Cn T N, w ∈ gx_TB) (ty : Nat → FieldType) (hty : ∀ j, j < N → parseFieldDescriptor (T j).2.2.1 = some (ty j)) (h1 : Cond.classLink own index Cn ∈ gx_TB) (h2 : Cond.instantiable Cn N ∈ gx_TB) (h3 : Cond.initialized Cn ∈ gx_TB) (fs : List Value) (hfs : ∀ j, j < N → defaultValue (ty j) = vp_V fs j) (hk : k + 1 ≤ R.cells) (hn : n + N ≤ R.slots) (kk : ∀ q : Nat, G (k + 1) (n + N) (ws ++ [(q, .inr (ci, fs))]) lv (pc + 3) (.ref q :: st)) : G k n ws lv pc st := by
  obtain ⟨p, e, s, m, args, below, meth, c, A, Q, rfl, hx, hb, hml, hown, hts, hK, hA, hX⟩ := B
  intro H locs ls hP hD hS hl
  exact va_new hx hb hts hin ty hty hown (hts _ h1) (hts _ h2) (hts _ h3) hK hP hD hS hA hc hfs hk hn hd (fun q H1 hP hD hS => kk q H1 locs ls hP hD hS hl)
end GX2
end
section
/-! Wrappers: calls whose end is a function of their start, branches on truth values, numbers of loops. -/
def gx_D (r : Option Value) (W1 : va_W) : Option Value → va_W → Prop := fun v w => v = r ∧ w = W1
def bI (b : Bool) : Int32 := if b then 1 else 0
theorem bI_01 (b : Bool) : bI b = 0 ∨ bI b = 1 := by cases b <;> first | exact Or.inl rfl | exact Or.inr rfl
theorem bI_t {b : Bool} (h : b = true) : bI b = 1 := by rw [h]; rfl
theorem bI_f {b : Bool} (h : b = false) : bI b = 0 := by rw [h]; rfl
abbrev rmm (f lo : Nat) : Room := { frames := f, cells := 0, slots := 0, locals := lo }
theorem lp_le {x : Int32} : (x.toNatClampNeg : Int) = max 0 x.toInt := by
  show ((x.toInt.toNat : Nat) : Int) = _
  omega
theorem lp_lt31 (x : Int32) : x.toNatClampNeg < 2 ^ 31 := by
  have h := lp_le (x := x)
  have h2 : x.toInt < 2147483648 := Int32.toInt_lt x
  omega
theorem lp_iff {i : Nat} {x : Int32} (hi : i < 2 ^ 31) : nI i < x ↔ i < x.toNatClampNeg := by
  rw [Int32.lt_iff_toInt_lt, nI_toInt hi]
  have h := lp_le (x := x)
  omega
/-- a loop's test, at its end and before -/
theorem lpT {i : Nat} {x : Int32} (h : i + 0 = x.toNatClampNeg) : x ≤ nI i := by
  have h1 : ¬ nI i < x := fun q => by
    have := (lp_iff (by have := lp_lt31 x; omega)).mp q
    omega
  exact Int32.not_lt.mp h1
theorem lpF {i d : Nat} {x : Int32} (h : i + (d + 1) = x.toNatClampNeg) : ¬ x ≤ nI i := by
  have h2 : nI i < x := (lp_iff (by have := lp_lt31 x; omega)).mpr (by omega)
  exact Int32.not_le.mpr h2
theorem lp_lit {n : Nat} (h : n < 2 ^ 31) : (nI n).toNatClampNeg = n := nI_clamp h
section GX3
variable {cc : ByteArray} {nL : Nat} {own nm : String} {l : Launch} {R : Room} {K : gx_K} {ret : Option FieldType} {Post : Option Value → va_W → Prop} {G : gx_J} {k n pc : Nat} {ws : va_W} {lv : List (Nat × Value)} {st : List Value}
theorem gx_kn {k' n' : Nat} (h1 : k = k') (h2 : n = n') (kk : G k' n' ws lv pc st) : G k n ws lv pc st := by rw [h1, h2]; exact kk
theorem gx_lv {lv' : List (Nat × Value)} (h : lv = lv') (kk : G k n ws lv' pc st) : G k n ws lv pc st := by rw [h]; exact kk
theorem gx_all {ws' : va_W} {lv' : List (Nat × Value)} (h1 : ws = ws') (h2 : lv = lv') (kk : G k n ws' lv' pc st) : G k n ws lv pc st := by rw [h1, h2]; exact kk
theorem gx_if_eq_b (B : gx_B cc nL own l R K G) {off : Int} (tgt : Nat) (hd : decode cc pc = .ok (.ifCond .eq off, 3)) (ht : (pc : Int) + off = (tgt : Int)) {b : Bool} (kt : b = false → G k n ws lv tgt st) (kf : b = true → G k n ws lv (pc + 3) st) : G k n ws lv pc (.int (bI b) :: st) := by
  refine gx_if_eq B tgt hd ht (fun h => kt ?_) (fun h => kf ?_)
  · cases b
    · rfl
    · exact absurd h (by decide)
  · cases b
    · exact absurd rfl h
    · rfl
theorem gx_if_ne_b (B : gx_B cc nL own l R K G) {off : Int} (tgt : Nat) (hd : decode cc pc = .ok (.ifCond .ne off, 3)) (ht : (pc : Int) + off = (tgt : Int)) {b : Bool} (kt : b = true → G k n ws lv tgt st) (kf : b = false → G k n ws lv (pc + 3) st) : G k n ws lv pc (.int (bI b) :: st) := by
  refine gx_if_ne B tgt hd ht (fun h => kt ?_) (fun h => kf ?_)
  · cases b
    · exact absurd rfl h
    · rfl
  · cases b
    · rfl
    · exact absurd h (by decide)
theorem gx_dVi (B : gx_B cc nL own l R K G) {y : MethodName} {rm : Room} {W0 wr W1 : va_W} {bytes : ByteArray} {maxL : Nat} {ret' : Option FieldType} {index : Nat} {rest : List Value} {b : Nat} {As : List Value} {T0 : u_T} {N0 ci : Nat} {fs : List Value} {r : Int32} (hM : gx_Ctr l K y bytes maxL ret' rm (.ref b :: As) W0 (gx_D (some (.int r)) W1)) (hm : gx_M y bytes maxL ret') (hdg : decode cc pc = .ok (.invokevirtual index, 3)) (hlk : Cond.methodLink own index y ∈ gx_TB) (hnA : (parseMethodDescriptor y.desc).map (fun d => d.parameters.length) = some As.length) (hRm : rm.frames + 1 ≤ R.frames ∧ 8 + (maxL + 11) + rm.locals ≤ R.locals) (h0 : rm.cells = 0 ∧ rm.slots = 0) (hkn : k ≤ R.cells ∧ n ≤ R.slots) (hst : st = As.reverse ++ .ref b :: rest) (hcat : (rest.map fun v => v.category).sum ≤ 8)
    (isC isR : List Nat) (hC : isC.map (fun i => ws[i]?) = W0.map some) (hR : isR.map (fun i => ws[i]?) = wr.map some) (hn : va_nd isR = true) (hdis : ∀ i ∈ isR, i ∉ isC) (hnC : va_nd isC = true) (hci : vwCl[ci]? = some (y.cls, T0, N0)) (hb0 : W0[0]? = some (b, .inr (ci, fs)))
    (is : List Nat) (hnd : va_nd is = true) (ws' : va_W) (hp : is.map (fun i => (wr ++ W1)[i]?) = ws'.map some) (kk : G k n ws' lv (pc + 3) (.int r :: rest)) : G k n ws lv pc st := by
  refine gx_callV B hM hm hdg hlk hnA ⟨hRm.1, hRm.2, by rw [h0.1]; exact hkn.1, by rw [h0.2]; exact hkn.2⟩ hst hcat isC isR hC hR hn hdis hnC hci hb0 (fun v w h => ?_)
  obtain ⟨rfl, rfl⟩ := h
  refine gx_kn (k' := k) (n' := n) (by rw [h0.1]; rfl) (by rw [h0.2]; rfl) ?_
  exact gx_perm B is hnd hp kk
theorem gx_dVv (B : gx_B cc nL own l R K G) {y : MethodName} {rm : Room} {W0 wr W1 : va_W} {bytes : ByteArray} {maxL : Nat} {ret' : Option FieldType} {index : Nat} {rest : List Value} {b : Nat} {As : List Value} {T0 : u_T} {N0 ci : Nat} {fs : List Value} (hM : gx_Ctr l K y bytes maxL ret' rm (.ref b :: As) W0 (gx_D none W1)) (hm : gx_M y bytes maxL ret') (hdg : decode cc pc = .ok (.invokevirtual index, 3)) (hlk : Cond.methodLink own index y ∈ gx_TB) (hnA : (parseMethodDescriptor y.desc).map (fun d => d.parameters.length) = some As.length) (hRm : rm.frames + 1 ≤ R.frames ∧ 8 + (maxL + 11) + rm.locals ≤ R.locals) (h0 : rm.cells = 0 ∧ rm.slots = 0) (hkn : k ≤ R.cells ∧ n ≤ R.slots) (hst : st = As.reverse ++ .ref b :: rest) (hcat : (rest.map fun v => v.category).sum ≤ 8)
    (isC isR : List Nat) (hC : isC.map (fun i => ws[i]?) = W0.map some) (hR : isR.map (fun i => ws[i]?) = wr.map some) (hn : va_nd isR = true) (hdis : ∀ i ∈ isR, i ∉ isC) (hnC : va_nd isC = true) (hci : vwCl[ci]? = some (y.cls, T0, N0)) (hb0 : W0[0]? = some (b, .inr (ci, fs)))
    (is : List Nat) (hnd : va_nd is = true) (ws' : va_W) (hp : is.map (fun i => (wr ++ W1)[i]?) = ws'.map some) (kk : G k n ws' lv (pc + 3) rest) : G k n ws lv pc st := by
  refine gx_callV B hM hm hdg hlk hnA ⟨hRm.1, hRm.2, by rw [h0.1]; exact hkn.1, by rw [h0.2]; exact hkn.2⟩ hst hcat isC isR hC hR hn hdis hnC hci hb0 (fun v w h => ?_)
  obtain ⟨rfl, rfl⟩ := h
  refine gx_kn (k' := k) (n' := n) (by rw [h0.1]; rfl) (by rw [h0.2]; rfl) ?_
  exact gx_perm B is hnd hp kk
theorem gx_dSi (B : gx_B cc nL own l R K G) {y : MethodName} {rm : Room} {W0 wr W1 : va_W} {bytes : ByteArray} {maxL : Nat} {ret' : Option FieldType} {index : Nat} {rest : List Value} {As : List Value} {r : Int32} (hM : gx_Ctr l K y bytes maxL ret' rm As W0 (gx_D (some (.int r)) W1)) (hm : gx_MS y bytes maxL ret') (hdg : decode cc pc = .ok (.invokestatic index, 3)) (hlk : Cond.methodLink own index y ∈ gx_TB) (hnA : (parseMethodDescriptor y.desc).map (fun d => d.parameters.length) = some As.length) (hRm : rm.frames + 1 ≤ R.frames ∧ 8 + (maxL + 11) + rm.locals ≤ R.locals) (h0 : rm.cells = 0 ∧ rm.slots = 0) (hkn : k ≤ R.cells ∧ n ≤ R.slots) (hst : st = As.reverse ++ rest) (hcat : (rest.map fun v => v.category).sum ≤ 8)
    (isC isR : List Nat) (hC : isC.map (fun i => ws[i]?) = W0.map some) (hR : isR.map (fun i => ws[i]?) = wr.map some) (hn : va_nd isR = true) (hdis : ∀ i ∈ isR, i ∉ isC) (hnC : va_nd isC = true)
    (is : List Nat) (hnd : va_nd is = true) (ws' : va_W) (hp : is.map (fun i => (wr ++ W1)[i]?) = ws'.map some) (kk : G k n ws' lv (pc + 3) (.int r :: rest)) : G k n ws lv pc st := by
  refine gx_callS B hM hm hdg hlk hnA ⟨hRm.1, hRm.2, by rw [h0.1]; exact hkn.1, by rw [h0.2]; exact hkn.2⟩ hst hcat isC isR hC hR hn hdis hnC (fun v w h => ?_)
  obtain ⟨rfl, rfl⟩ := h
  refine gx_kn (k' := k) (n' := n) (by rw [h0.1]; rfl) (by rw [h0.2]; rfl) ?_
  exact gx_perm B is hnd hp kk
theorem gx_dSv (B : gx_B cc nL own l R K G) {y : MethodName} {rm : Room} {W0 wr W1 : va_W} {bytes : ByteArray} {maxL : Nat} {ret' : Option FieldType} {index : Nat} {rest : List Value} {As : List Value} (hM : gx_Ctr l K y bytes maxL ret' rm As W0 (gx_D none W1)) (hm : gx_MS y bytes maxL ret') (hdg : decode cc pc = .ok (.invokestatic index, 3)) (hlk : Cond.methodLink own index y ∈ gx_TB) (hnA : (parseMethodDescriptor y.desc).map (fun d => d.parameters.length) = some As.length) (hRm : rm.frames + 1 ≤ R.frames ∧ 8 + (maxL + 11) + rm.locals ≤ R.locals) (h0 : rm.cells = 0 ∧ rm.slots = 0) (hkn : k ≤ R.cells ∧ n ≤ R.slots) (hst : st = As.reverse ++ rest) (hcat : (rest.map fun v => v.category).sum ≤ 8)
    (isC isR : List Nat) (hC : isC.map (fun i => ws[i]?) = W0.map some) (hR : isR.map (fun i => ws[i]?) = wr.map some) (hn : va_nd isR = true) (hdis : ∀ i ∈ isR, i ∉ isC) (hnC : va_nd isC = true)
    (is : List Nat) (hnd : va_nd is = true) (ws' : va_W) (hp : is.map (fun i => (wr ++ W1)[i]?) = ws'.map some) (kk : G k n ws' lv (pc + 3) rest) : G k n ws lv pc st := by
  refine gx_callS B hM hm hdg hlk hnA ⟨hRm.1, hRm.2, by rw [h0.1]; exact hkn.1, by rw [h0.2]; exact hkn.2⟩ hst hcat isC isR hC hR hn hdis hnC (fun v w h => ?_)
  obtain ⟨rfl, rfl⟩ := h
  refine gx_kn (k' := k) (n' := n) (by rw [h0.1]; rfl) (by rw [h0.2]; rfl) ?_
  exact gx_perm B is hnd hp kk
/-- the static method of the outer class, from Books and from Script -/
theorem gx_w0 (B : gx_B cc nL RX0 l R K G) {rm : Room} {bytes : ByteArray} {maxL : Nat} {ret' : Option FieldType} {rest : List Value} {x1 x2 x3 r : Int32} (hM : gx_Ctr l K yX4_within bytes maxL ret' rm [.int x1, .int x2, .int x3] [] (gx_D (some (.int r)) [])) (hm : gx_MS yX4_within bytes maxL ret') (hdg : decode cc pc = .ok (.invokestatic 54, 3)) (hRm : rm.frames + 1 ≤ R.frames ∧ 8 + (maxL + 11) + rm.locals ≤ R.locals) (h0 : rm.cells = 0 ∧ rm.slots = 0) (hkn : k ≤ R.cells ∧ n ≤ R.slots) (hcat : (rest.map fun v => v.category).sum ≤ 8) (isR : List Nat) (hR : isR.map (fun i => ws[i]?) = ws.map some) (hn : va_nd isR = true)
    (kk : G k n ws lv (pc + 3) (.int r :: rest)) : G k n ws lv pc (.int x3 :: .int x2 :: .int x1 :: rest) := by
  refine gx_callSN0 B hM hm hdg rfl ⟨hRm.1, hRm.2, by rw [h0.1]; exact hkn.1, by rw [h0.2]; exact hkn.2⟩ rfl hcat [] isR rfl hR hn (fun _ _ h => absurd h List.not_mem_nil) rfl (fun v w h => ?_)
  obtain ⟨rfl, rfl⟩ := h
  refine gx_kn (k' := k) (n' := n) (by rw [h0.1]; rfl) (by rw [h0.2]; rfl) ?_
  rw [List.append_nil]
  exact kk
theorem gx_w2 (B : gx_B cc nL RX2 l R K G) {rm : Room} {bytes : ByteArray} {maxL : Nat} {ret' : Option FieldType} {rest : List Value} {x1 x2 x3 r : Int32} (hM : gx_Ctr l K yX4_within bytes maxL ret' rm [.int x1, .int x2, .int x3] [] (gx_D (some (.int r)) [])) (hm : gx_MS yX4_within bytes maxL ret') (hdg : decode cc pc = .ok (.invokestatic 35, 3)) (hRm : rm.frames + 1 ≤ R.frames ∧ 8 + (maxL + 11) + rm.locals ≤ R.locals) (h0 : rm.cells = 0 ∧ rm.slots = 0) (hkn : k ≤ R.cells ∧ n ≤ R.slots) (hcat : (rest.map fun v => v.category).sum ≤ 8) (isR : List Nat) (hR : isR.map (fun i => ws[i]?) = ws.map some) (hn : va_nd isR = true)
    (kk : G k n ws lv (pc + 3) (.int r :: rest)) : G k n ws lv pc (.int x3 :: .int x2 :: .int x1 :: rest) := by
  refine gx_callSN2 B hM hm hdg rfl ⟨hRm.1, hRm.2, by rw [h0.1]; exact hkn.1, by rw [h0.2]; exact hkn.2⟩ rfl hcat [] isR rfl hR hn (fun _ _ h => absurd h List.not_mem_nil) rfl (fun v w h => ?_)
  obtain ⟨rfl, rfl⟩ := h
  refine gx_kn (k' := k) (n' := n) (by rw [h0.1]; rfl) (by rw [h0.2]; rfl) ?_
  rw [List.append_nil]
  exact kk
end GX3
end
section
/-! Tables: what their methods answer and do to the cells, told by start s, rows m, columns w. -/
def tHas (C : Nat → Int32) (s : Nat) (r : Int32) : Bool := decide (¬ r < 0) && decide (r < C s)
def tFull (C : Nat → Int32) (s m : Nat) : Bool := decide (nI m ≤ C s)
def tOk (m w : Nat) (r c : Int32) : Bool := decide (¬ r < 0) && decide (¬ nI m ≤ r) && decide (¬ c < 0) && decide (c < nI w)
def tIx (s w : Nat) (r c : Int32) : Nat := s + 1 + r.toNatClampNeg * w + c.toNatClampNeg
def tAt (C : Nat → Int32) (s m w : Nat) (r c : Int32) : Int32 := if tOk m w r c then C (tIx s w r c) else 0
def tPut (C : Nat → Int32) (s m w : Nat) (r c v : Int32) : Nat → Int32 := if tOk m w r c then upd C (tIx s w r c) v else C
def tAdd (C : Nat → Int32) (s m w : Nat) (r c v : Int32) : Nat → Int32 := if tOk m w r c then upd C (tIx s w r c) (C (tIx s w r c) + v) else C
def tNew (C : Nat → Int32) (s m : Nat) : Int32 := if nI m ≤ C s then (-1) else C s
def tNewC (C : Nat → Int32) (s m : Nat) : Nat → Int32 := if nI m ≤ C s then C else upd C s (C s + 1)
def tSumN (C : Nat → Int32) (s m w : Nat) (c : Int32) : Nat → Int32
  | 0 => 0
  | n + 1 => tSumN C s m w c n + tAt C s m w (nI n) c
def tSum (C : Nat → Int32) (s m w : Nat) (c : Int32) : Int32 := tSumN C s m w c (C s).toNatClampNeg
def tHb (s m w : Nat) : Prop := s + 1 + m * w ≤ 351 ∧ m ≤ 24 ∧ w ≤ 12
theorem tIx_eq {s m w : Nat} {r c : Int32} (hb : tHb s m w) (h1 : ¬ r < 0) (h2 : ¬ nI m ≤ r) (h3 : ¬ c < 0) (h4 : c < nI w) : nI (s + 1) + r * nI w + c = nI (tIx s w r c) ∧ tIx s w r c < 351 := by
  obtain ⟨r', hr, rfl⟩ := nI_of h1
  obtain ⟨c', hc, rfl⟩ := nI_of h3
  obtain ⟨b1, b2, b3⟩ := hb
  have h5 : r' < m := by
    rcases Nat.lt_or_ge r' m with q | q
    · exact q
    · exact absurd (nI_le q hr) h2
  have h6 : c' < w := (nI_ltI hc (by omega)).mp h4
  have h7 : (r' + 1) * w ≤ m * w := Nat.mul_le_mul_right w h5
  rw [Nat.add_mul] at h7
  refine ⟨?_, ?_⟩
  · rw [pk_mul, nI_add, nI_add]
    unfold tIx
    rw [nI_clamp hr, nI_clamp hc]
  · unfold tIx
    rw [nI_clamp hr, nI_clamp hc]
    omega
abbrev wT (K : gx_K) (t c s m w : Nat) (C : Nat → Int32) : va_W := [(t, .inr (3, [.ref c, .int (nI s), .int (nI m), .int (nI w)])), (c, .inl (K.2.1.2.1, 351, .inl C))]
end
section
theorem pX3_size : (parseMethodDescriptor yX3_size.desc).map (fun d => d.parameters.length) = some 0 := by decide +kernel
theorem mX3_size : gx_M yX3_size cX3_size 1 (some .int) := ⟨tb_317, tb_318, tb_70, tb_319, by decide, by decide⟩
set_option maxHeartbeats 4000000 in
set_option maxRecDepth 100000 in
/-- Table.size -/
theorem c_X3_size (l : Launch) (K : gx_K) (t c s m w : Nat) (C : Nat → Int32) (h0 : s < 351) : gx_Ctr l K yX3_size cX3_size 1 (some .int) (rmm 1 0) [.ref t] (wT K t c s m w C) (gx_D (some (.int (C s))) (wT K t c s m w C)) := by
  refine gx_of (by decide) (Nat.le_of_ble_eq_true rfl) (fun G hC => ?_)
  have hB := hC.b
  refine gx_lv (lv' := [(0, .ref t)]) rfl ?_
  refine gx_aload_n (pc := 0) hB dX3_size_0 0 rfl ?_
  refine gx_get (pc := 1) hB dX3_size_1 inX3 rfl 0 rfl 0 (by decide) tb_100 rfl rfl ?_
  refine gx_aload_n (pc := 4) hB dX3_size_4 0 rfl ?_
  refine gx_get (pc := 5) hB dX3_size_5 inX3 rfl 0 rfl 1 (by decide) tb_101 rfl rfl ?_
  refine gx_iald (pc := 8) hB dX3_size_8 1 1 rfl rfl s rfl (by omega) (by decide) ?_
  exact gx_iret (pc := 9) hC dX3_size_9 (Nat.zero_le _) (Nat.zero_le _) (⟨rfl, rfl⟩)
theorem pX3_has : (parseMethodDescriptor yX3_has.desc).map (fun d => d.parameters.length) = some 1 := by decide +kernel
theorem mX3_has : gx_M yX3_has cX3_has 2 (some .boolean) := ⟨tb_239, tb_240, tb_70, tb_241, by decide, by decide⟩
set_option maxHeartbeats 4000000 in
set_option maxRecDepth 100000 in
theorem c_X3_has (l : Launch) (K : gx_K) (t c s m w : Nat) (C : Nat → Int32) (r : Int32) (h0 : s < 351) : gx_Ctr l K yX3_has cX3_has 2 (some .boolean) (rmm 1 0) [.ref t, .int r] (wT K t c s m w C) (gx_D (some (.int (bI (tHas C s r)))) (wT K t c s m w C)) := by
  refine gx_of (by decide) (Nat.le_of_ble_eq_true rfl) (fun G hC => ?_)
  have hB := hC.b
  refine gx_lv (lv' := [(0, .ref t), (1, .int r)]) rfl ?_
  refine gx_iload_n (pc := 0) hB dX3_has_0 1 rfl ?_
  refine gx_if_lt (pc := 1) hB 21 dX3_has_1 (by decide) (fun c_1 => ?_) (fun c_1 => ?_)
  · refine gx_iconst (pc := 21) hB dX3_has_21 0 (by decide) ?_
    have e1 : bI (tHas C s r) = 0 := by simp [tHas, bI, c_1, eq_false (Int32.not_le.mpr c_1)]
    exact gx_zret (pc := 22) hC dX3_has_22 (Nat.zero_le _) (Nat.zero_le _) (by decide) (⟨by rw [e1], rfl⟩)
  · refine gx_iload_n (pc := 4) hB dX3_has_4 1 rfl ?_
    refine gx_aload_n (pc := 5) hB dX3_has_5 0 rfl ?_
    refine gx_get (pc := 6) hB dX3_has_6 inX3 rfl 0 rfl 0 (by decide) tb_100 rfl rfl ?_
    refine gx_aload_n (pc := 9) hB dX3_has_9 0 rfl ?_
    refine gx_get (pc := 10) hB dX3_has_10 inX3 rfl 0 rfl 1 (by decide) tb_101 rfl rfl ?_
    refine gx_iald (pc := 13) hB dX3_has_13 1 1 rfl rfl s rfl (by omega) (by decide) ?_
    refine gx_icmp_ge (pc := 14) hB 21 dX3_has_14 (by decide) (fun c_2 => ?_) (fun c_2 => ?_)
    · refine gx_iconst (pc := 21) hB dX3_has_21 0 (by decide) ?_
      have e1 : bI (tHas C s r) = 0 := by simp [tHas, bI, c_1, eq_false c_1, c_2, eq_false (Int32.not_lt.mpr c_2)]
      exact gx_zret (pc := 22) hC dX3_has_22 (Nat.zero_le _) (Nat.zero_le _) (by decide) (⟨by rw [e1], rfl⟩)
    · refine gx_iconst (pc := 17) hB dX3_has_17 1 (by decide) ?_
      refine gx_goto (pc := 18) hB 22 dX3_has_18 (by decide) ?_
      have e1 : bI (tHas C s r) = 1 := by simp [tHas, bI, c_1, eq_false c_1, Int32.not_le.mp c_2, eq_false c_2]
      exact gx_zret (pc := 22) hC dX3_has_22 (Nat.zero_le _) (Nat.zero_le _) (by decide) (⟨by rw [e1], rfl⟩)
theorem pX3_isFull : (parseMethodDescriptor yX3_isFull.desc).map (fun d => d.parameters.length) = some 0 := by decide +kernel
theorem mX3_isFull : gx_M yX3_isFull cX3_isFull 1 (some .boolean) := ⟨tb_262, tb_263, tb_70, tb_264, by decide, by decide⟩
set_option maxHeartbeats 4000000 in
set_option maxRecDepth 100000 in
theorem c_X3_isFull (l : Launch) (K : gx_K) (t c s m w : Nat) (C : Nat → Int32) (h0 : s < 351) : gx_Ctr l K yX3_isFull cX3_isFull 1 (some .boolean) (rmm 1 0) [.ref t] (wT K t c s m w C) (gx_D (some (.int (bI (tFull C s m)))) (wT K t c s m w C)) := by
  refine gx_of (by decide) (Nat.le_of_ble_eq_true rfl) (fun G hC => ?_)
  have hB := hC.b
  refine gx_lv (lv' := [(0, .ref t)]) rfl ?_
  refine gx_aload_n (pc := 0) hB dX3_isFull_0 0 rfl ?_
  refine gx_get (pc := 1) hB dX3_isFull_1 inX3 rfl 0 rfl 0 (by decide) tb_100 rfl rfl ?_
  refine gx_aload_n (pc := 4) hB dX3_isFull_4 0 rfl ?_
  refine gx_get (pc := 5) hB dX3_isFull_5 inX3 rfl 0 rfl 1 (by decide) tb_101 rfl rfl ?_
  refine gx_iald (pc := 8) hB dX3_isFull_8 1 1 rfl rfl s rfl (by omega) (by decide) ?_
  refine gx_aload_n (pc := 9) hB dX3_isFull_9 0 rfl ?_
  refine gx_get (pc := 10) hB dX3_isFull_10 inX3 rfl 0 rfl 2 (by decide) tb_102 rfl rfl ?_
  refine gx_icmp_lt (pc := 13) hB 20 dX3_isFull_13 (by decide) (fun c_1 => ?_) (fun c_1 => ?_)
  · refine gx_iconst (pc := 20) hB dX3_isFull_20 0 (by decide) ?_
    have e1 : bI (tFull C s m) = 0 := by simp [tFull, bI, c_1, eq_false (Int32.not_le.mpr c_1)]
    exact gx_zret (pc := 21) hC dX3_isFull_21 (Nat.zero_le _) (Nat.zero_le _) (by decide) (⟨by rw [e1], rfl⟩)
  · refine gx_iconst (pc := 16) hB dX3_isFull_16 1 (by decide) ?_
    refine gx_goto (pc := 17) hB 21 dX3_isFull_17 (by decide) ?_
    have e1 : bI (tFull C s m) = 1 := by simp [tFull, bI, c_1, eq_false c_1]
    exact gx_zret (pc := 21) hC dX3_isFull_21 (Nat.zero_le _) (Nat.zero_le _) (by decide) (⟨by rw [e1], rfl⟩)
theorem pX3_addRow : (parseMethodDescriptor yX3_addRow.desc).map (fun d => d.parameters.length) = some 0 := by decide +kernel
theorem mX3_addRow : gx_M yX3_addRow cX3_addRow 2 (some .int) := ⟨tb_119, tb_120, tb_70, tb_121, by decide, by decide⟩
set_option maxHeartbeats 4000000 in
set_option maxRecDepth 100000 in
theorem c_X3_addRow (l : Launch) (K : gx_K) (t c s m w : Nat) (C : Nat → Int32) (h0 : s < 351) : gx_Ctr l K yX3_addRow cX3_addRow 2 (some .int) (rmm 1 0) [.ref t] (wT K t c s m w C) (gx_D (some (.int (tNew C s m))) (wT K t c s m w (tNewC C s m))) := by
  refine gx_of (by decide) (Nat.le_of_ble_eq_true rfl) (fun G hC => ?_)
  have hB := hC.b
  refine gx_lv (lv' := [(0, .ref t)]) rfl ?_
  refine gx_aload_n (pc := 0) hB dX3_addRow_0 0 rfl ?_
  refine gx_get (pc := 1) hB dX3_addRow_1 inX3 rfl 0 rfl 0 (by decide) tb_100 rfl rfl ?_
  refine gx_aload_n (pc := 4) hB dX3_addRow_4 0 rfl ?_
  refine gx_get (pc := 5) hB dX3_addRow_5 inX3 rfl 0 rfl 1 (by decide) tb_101 rfl rfl ?_
  refine gx_iald (pc := 8) hB dX3_addRow_8 1 1 rfl rfl s rfl (by omega) (by decide) ?_
  refine gx_istore_n (pc := 9) hB dX3_addRow_9 (by decide) [(1, .int (C s)), (0, .ref t)] rfl ?_
  refine gx_iload_n (pc := 10) hB dX3_addRow_10 0 rfl ?_
  refine gx_aload_n (pc := 11) hB dX3_addRow_11 1 rfl ?_
  refine gx_get (pc := 12) hB dX3_addRow_12 inX3 rfl 0 rfl 2 (by decide) tb_102 rfl rfl ?_
  refine gx_icmp_lt (pc := 15) hB 20 dX3_addRow_15 (by decide) (fun c_1 => ?_) (fun c_1 => ?_)
  · refine gx_aload_n (pc := 20) hB dX3_addRow_20 1 rfl ?_
    refine gx_get (pc := 21) hB dX3_addRow_21 inX3 rfl 0 rfl 0 (by decide) tb_100 rfl rfl ?_
    refine gx_aload_n (pc := 24) hB dX3_addRow_24 1 rfl ?_
    refine gx_get (pc := 25) hB dX3_addRow_25 inX3 rfl 0 rfl 1 (by decide) tb_101 rfl rfl ?_
    refine gx_iload_n (pc := 28) hB dX3_addRow_28 0 rfl ?_
    refine gx_iconst (pc := 29) hB dX3_addRow_29 1 (by decide) ?_
    refine gx_iadd (pc := 30) hB dX3_addRow_30 ?_
    refine gx_iast (pc := 31) hB dX3_addRow_31 1 1 rfl rfl s rfl (by omega) (by decide) (wT K t c s m w (upd C s (C s + 1))) rfl ?_
    refine gx_iload_n (pc := 32) hB dX3_addRow_32 0 rfl ?_
    have e1 : tNew C s m = C s := by simp [tNew, tNewC, c_1, eq_false (Int32.not_le.mpr c_1)]
    have f0 : tNewC C s m = upd C s (C s + 1) := by simp [tNew, tNewC, c_1, eq_false (Int32.not_le.mpr c_1)]
    exact gx_iret (pc := 33) hC dX3_addRow_33 (Nat.zero_le _) (Nat.zero_le _) (⟨by rw [e1], by rw [f0]⟩)
  · refine gx_iconst (pc := 18) hB dX3_addRow_18 (-1) (by decide) ?_
    have e1 : tNew C s m = (-1) := by simp [tNew, tNewC, c_1, eq_false c_1]
    have f0 : tNewC C s m = C := by simp [tNew, tNewC, c_1, eq_false c_1]
    exact gx_iret (pc := 19) hC dX3_addRow_19 (Nat.zero_le _) (Nat.zero_le _) (⟨by rw [e1], by rw [f0]⟩)
theorem pX3_at : (parseMethodDescriptor yX3_at.desc).map (fun d => d.parameters.length) = some 2 := by decide +kernel
theorem mX3_at : gx_M yX3_at cX3_at 3 (some .int) := ⟨tb_246, tb_247, tb_70, tb_248, by decide, by decide⟩
set_option maxHeartbeats 4000000 in
set_option maxRecDepth 100000 in
theorem c_X3_at (l : Launch) (K : gx_K) (t c s m w : Nat) (C : Nat → Int32) (r k : Int32) (h0 : tHb s m w) : gx_Ctr l K yX3_at cX3_at 3 (some .int) (rmm 1 0) [.ref t, .int r, .int k] (wT K t c s m w C) (gx_D (some (.int (tAt C s m w r k))) (wT K t c s m w C)) := by
  refine gx_of (by decide) (Nat.le_of_ble_eq_true rfl) (fun G hC => ?_)
  have hB := hC.b
  refine gx_lv (lv' := [(0, .ref t), (1, .int r), (2, .int k)]) rfl ?_
  refine gx_iload_n (pc := 0) hB dX3_at_0 1 rfl ?_
  refine gx_if_lt (pc := 1) hB 24 dX3_at_1 (by decide) (fun c_1 => ?_) (fun c_1 => ?_)
  · refine gx_iconst (pc := 24) hB dX3_at_24 0 (by decide) ?_
    have e1 : tAt C s m w r k = 0 := by simp [tAt, tOk, c_1, eq_false (Int32.not_le.mpr c_1)]
    exact gx_iret (pc := 25) hC dX3_at_25 (Nat.zero_le _) (Nat.zero_le _) (⟨by rw [e1], rfl⟩)
  · refine gx_iload_n (pc := 4) hB dX3_at_4 1 rfl ?_
    refine gx_aload_n (pc := 5) hB dX3_at_5 0 rfl ?_
    refine gx_get (pc := 6) hB dX3_at_6 inX3 rfl 0 rfl 2 (by decide) tb_102 rfl rfl ?_
    refine gx_icmp_ge (pc := 9) hB 24 dX3_at_9 (by decide) (fun c_2 => ?_) (fun c_2 => ?_)
    · refine gx_iconst (pc := 24) hB dX3_at_24 0 (by decide) ?_
      have e1 : tAt C s m w r k = 0 := by simp [tAt, tOk, c_1, eq_false c_1, c_2, eq_false (Int32.not_lt.mpr c_2)]
      exact gx_iret (pc := 25) hC dX3_at_25 (Nat.zero_le _) (Nat.zero_le _) (⟨by rw [e1], rfl⟩)
    · refine gx_iload_n (pc := 12) hB dX3_at_12 2 rfl ?_
      refine gx_if_lt (pc := 13) hB 24 dX3_at_13 (by decide) (fun c_3 => ?_) (fun c_3 => ?_)
      · refine gx_iconst (pc := 24) hB dX3_at_24 0 (by decide) ?_
        have e1 : tAt C s m w r k = 0 := by simp [tAt, tOk, c_1, eq_false c_1, Int32.not_le.mp c_2, eq_false c_2, c_3, eq_false (Int32.not_le.mpr c_3)]
        exact gx_iret (pc := 25) hC dX3_at_25 (Nat.zero_le _) (Nat.zero_le _) (⟨by rw [e1], rfl⟩)
      · refine gx_iload_n (pc := 16) hB dX3_at_16 2 rfl ?_
        refine gx_aload_n (pc := 17) hB dX3_at_17 0 rfl ?_
        refine gx_get (pc := 18) hB dX3_at_18 inX3 rfl 0 rfl 3 (by decide) tb_103 rfl rfl ?_
        refine gx_icmp_lt (pc := 21) hB 26 dX3_at_21 (by decide) (fun c_4 => ?_) (fun c_4 => ?_)
        · refine gx_aload_n (pc := 26) hB dX3_at_26 0 rfl ?_
          refine gx_get (pc := 27) hB dX3_at_27 inX3 rfl 0 rfl 0 (by decide) tb_100 rfl rfl ?_
          refine gx_aload_n (pc := 30) hB dX3_at_30 0 rfl ?_
          refine gx_get (pc := 31) hB dX3_at_31 inX3 rfl 0 rfl 1 (by decide) tb_101 rfl rfl ?_
          refine gx_iconst (pc := 34) hB dX3_at_34 1 (by decide) ?_
          refine gx_iadd (pc := 35) hB dX3_at_35 ?_
          refine gx_top (show nI s + 1 = nI (s + 1) from nI_add s 1) ?_
          refine gx_iload_n (pc := 36) hB dX3_at_36 1 rfl ?_
          refine gx_aload_n (pc := 37) hB dX3_at_37 0 rfl ?_
          refine gx_get (pc := 38) hB dX3_at_38 inX3 rfl 0 rfl 3 (by decide) tb_103 rfl rfl ?_
          refine gx_imul (pc := 41) hB dX3_at_41 ?_
          refine gx_iadd (pc := 42) hB dX3_at_42 ?_
          refine gx_iload_n (pc := 43) hB dX3_at_43 2 rfl ?_
          refine gx_iadd (pc := 44) hB dX3_at_44 ?_
          refine gx_iald (pc := 45) hB dX3_at_45 1 1 rfl rfl (tIx s w r k) (tIx_eq h0 c_1 c_2 c_3 c_4).1 (tIx_eq h0 c_1 c_2 c_3 c_4).2 (by decide) ?_
          have e1 : tAt C s m w r k = C (tIx s w r k) := by simp [tAt, tOk, c_1, eq_false c_1, Int32.not_le.mp c_2, eq_false c_2, c_3, eq_false c_3, c_4, eq_false (Int32.not_le.mpr c_4)]
          exact gx_iret (pc := 46) hC dX3_at_46 (Nat.zero_le _) (Nat.zero_le _) (⟨by rw [e1], rfl⟩)
        · refine gx_iconst (pc := 24) hB dX3_at_24 0 (by decide) ?_
          have e1 : tAt C s m w r k = 0 := by simp [tAt, tOk, c_1, eq_false c_1, Int32.not_le.mp c_2, eq_false c_2, c_3, eq_false c_3, c_4, eq_false c_4]
          exact gx_iret (pc := 25) hC dX3_at_25 (Nat.zero_le _) (Nat.zero_le _) (⟨by rw [e1], rfl⟩)
theorem pX3_put : (parseMethodDescriptor yX3_put.desc).map (fun d => d.parameters.length) = some 3 := by decide +kernel
theorem mX3_put : gx_M yX3_put cX3_put 4 none := ⟨tb_123, tb_124, tb_70, tb_125, by decide, by decide⟩
set_option maxHeartbeats 4000000 in
set_option maxRecDepth 100000 in
theorem c_X3_put (l : Launch) (K : gx_K) (t c s m w : Nat) (C : Nat → Int32) (r k v : Int32) (h0 : tHb s m w) : gx_Ctr l K yX3_put cX3_put 4 none (rmm 1 0) [.ref t, .int r, .int k, .int v] (wT K t c s m w C) (gx_D none (wT K t c s m w (tPut C s m w r k v))) := by
  refine gx_of (by decide) (Nat.le_of_ble_eq_true rfl) (fun G hC => ?_)
  have hB := hC.b
  refine gx_lv (lv' := [(0, .ref t), (1, .int r), (2, .int k), (3, .int v)]) rfl ?_
  refine gx_iload_n (pc := 0) hB dX3_put_0 1 rfl ?_
  refine gx_if_lt (pc := 1) hB 45 dX3_put_1 (by decide) (fun c_1 => ?_) (fun c_1 => ?_)
  · have f0 : tPut C s m w r k v = C := by simp [tPut, tOk, c_1, eq_false (Int32.not_le.mpr c_1)]
    exact gx_vret (pc := 45) hC dX3_put_45 (Nat.zero_le _) (Nat.zero_le _) (⟨rfl, by rw [f0]⟩)
  · refine gx_iload_n (pc := 4) hB dX3_put_4 1 rfl ?_
    refine gx_aload_n (pc := 5) hB dX3_put_5 0 rfl ?_
    refine gx_get (pc := 6) hB dX3_put_6 inX3 rfl 0 rfl 2 (by decide) tb_102 rfl rfl ?_
    refine gx_icmp_ge (pc := 9) hB 45 dX3_put_9 (by decide) (fun c_2 => ?_) (fun c_2 => ?_)
    · have f0 : tPut C s m w r k v = C := by simp [tPut, tOk, c_1, eq_false c_1, c_2, eq_false (Int32.not_lt.mpr c_2)]
      exact gx_vret (pc := 45) hC dX3_put_45 (Nat.zero_le _) (Nat.zero_le _) (⟨rfl, by rw [f0]⟩)
    · refine gx_iload_n (pc := 12) hB dX3_put_12 2 rfl ?_
      refine gx_if_lt (pc := 13) hB 45 dX3_put_13 (by decide) (fun c_3 => ?_) (fun c_3 => ?_)
      · have f0 : tPut C s m w r k v = C := by simp [tPut, tOk, c_1, eq_false c_1, Int32.not_le.mp c_2, eq_false c_2, c_3, eq_false (Int32.not_le.mpr c_3)]
        exact gx_vret (pc := 45) hC dX3_put_45 (Nat.zero_le _) (Nat.zero_le _) (⟨rfl, by rw [f0]⟩)
      · refine gx_iload_n (pc := 16) hB dX3_put_16 2 rfl ?_
        refine gx_aload_n (pc := 17) hB dX3_put_17 0 rfl ?_
        refine gx_get (pc := 18) hB dX3_put_18 inX3 rfl 0 rfl 3 (by decide) tb_103 rfl rfl ?_
        refine gx_icmp_ge (pc := 21) hB 45 dX3_put_21 (by decide) (fun c_4 => ?_) (fun c_4 => ?_)
        · have f0 : tPut C s m w r k v = C := by simp [tPut, tOk, c_1, eq_false c_1, Int32.not_le.mp c_2, eq_false c_2, c_3, eq_false c_3, c_4, eq_false (Int32.not_lt.mpr c_4)]
          exact gx_vret (pc := 45) hC dX3_put_45 (Nat.zero_le _) (Nat.zero_le _) (⟨rfl, by rw [f0]⟩)
        · refine gx_aload_n (pc := 24) hB dX3_put_24 0 rfl ?_
          refine gx_get (pc := 25) hB dX3_put_25 inX3 rfl 0 rfl 0 (by decide) tb_100 rfl rfl ?_
          refine gx_aload_n (pc := 28) hB dX3_put_28 0 rfl ?_
          refine gx_get (pc := 29) hB dX3_put_29 inX3 rfl 0 rfl 1 (by decide) tb_101 rfl rfl ?_
          refine gx_iconst (pc := 32) hB dX3_put_32 1 (by decide) ?_
          refine gx_iadd (pc := 33) hB dX3_put_33 ?_
          refine gx_top (show nI s + 1 = nI (s + 1) from nI_add s 1) ?_
          refine gx_iload_n (pc := 34) hB dX3_put_34 1 rfl ?_
          refine gx_aload_n (pc := 35) hB dX3_put_35 0 rfl ?_
          refine gx_get (pc := 36) hB dX3_put_36 inX3 rfl 0 rfl 3 (by decide) tb_103 rfl rfl ?_
          refine gx_imul (pc := 39) hB dX3_put_39 ?_
          refine gx_iadd (pc := 40) hB dX3_put_40 ?_
          refine gx_iload_n (pc := 41) hB dX3_put_41 2 rfl ?_
          refine gx_iadd (pc := 42) hB dX3_put_42 ?_
          refine gx_iload_n (pc := 43) hB dX3_put_43 3 rfl ?_
          refine gx_iast (pc := 44) hB dX3_put_44 1 1 rfl rfl (tIx s w r k) (tIx_eq h0 c_1 c_2 c_3 (Int32.not_le.mp c_4)).1 (tIx_eq h0 c_1 c_2 c_3 (Int32.not_le.mp c_4)).2 (by decide) (wT K t c s m w (upd C (tIx s w r k) v)) rfl ?_
          have f0 : tPut C s m w r k v = upd C (tIx s w r k) v := by simp [tPut, tOk, c_1, eq_false c_1, Int32.not_le.mp c_2, eq_false c_2, c_3, eq_false c_3, Int32.not_le.mp c_4, eq_false c_4]
          exact gx_vret (pc := 45) hC dX3_put_45 (Nat.zero_le _) (Nat.zero_le _) (⟨rfl, by rw [f0]⟩)
theorem pX3_add : (parseMethodDescriptor yX3_add.desc).map (fun d => d.parameters.length) = some 3 := by decide +kernel
theorem mX3_add : gx_M yX3_add cX3_add 4 none := ⟨tb_270, tb_271, tb_70, tb_272, by decide, by decide⟩
set_option maxHeartbeats 4000000 in
set_option maxRecDepth 100000 in
theorem c_X3_add (l : Launch) (K : gx_K) (t c s m w : Nat) (C : Nat → Int32) (r k v : Int32) (h0 : tHb s m w) : gx_Ctr l K yX3_add cX3_add 4 none (rmm 1 0) [.ref t, .int r, .int k, .int v] (wT K t c s m w C) (gx_D none (wT K t c s m w (tAdd C s m w r k v))) := by
  refine gx_of (by decide) (Nat.le_of_ble_eq_true rfl) (fun G hC => ?_)
  have hB := hC.b
  refine gx_lv (lv' := [(0, .ref t), (1, .int r), (2, .int k), (3, .int v)]) rfl ?_
  refine gx_iload_n (pc := 0) hB dX3_add_0 1 rfl ?_
  refine gx_if_lt (pc := 1) hB 48 dX3_add_1 (by decide) (fun c_1 => ?_) (fun c_1 => ?_)
  · have f0 : tAdd C s m w r k v = C := by simp [tAdd, tOk, c_1, eq_false (Int32.not_le.mpr c_1)]
    exact gx_vret (pc := 48) hC dX3_add_48 (Nat.zero_le _) (Nat.zero_le _) (⟨rfl, by rw [f0]⟩)
  · refine gx_iload_n (pc := 4) hB dX3_add_4 1 rfl ?_
    refine gx_aload_n (pc := 5) hB dX3_add_5 0 rfl ?_
    refine gx_get (pc := 6) hB dX3_add_6 inX3 rfl 0 rfl 2 (by decide) tb_102 rfl rfl ?_
    refine gx_icmp_ge (pc := 9) hB 48 dX3_add_9 (by decide) (fun c_2 => ?_) (fun c_2 => ?_)
    · have f0 : tAdd C s m w r k v = C := by simp [tAdd, tOk, c_1, eq_false c_1, c_2, eq_false (Int32.not_lt.mpr c_2)]
      exact gx_vret (pc := 48) hC dX3_add_48 (Nat.zero_le _) (Nat.zero_le _) (⟨rfl, by rw [f0]⟩)
    · refine gx_iload_n (pc := 12) hB dX3_add_12 2 rfl ?_
      refine gx_if_lt (pc := 13) hB 48 dX3_add_13 (by decide) (fun c_3 => ?_) (fun c_3 => ?_)
      · have f0 : tAdd C s m w r k v = C := by simp [tAdd, tOk, c_1, eq_false c_1, Int32.not_le.mp c_2, eq_false c_2, c_3, eq_false (Int32.not_le.mpr c_3)]
        exact gx_vret (pc := 48) hC dX3_add_48 (Nat.zero_le _) (Nat.zero_le _) (⟨rfl, by rw [f0]⟩)
      · refine gx_iload_n (pc := 16) hB dX3_add_16 2 rfl ?_
        refine gx_aload_n (pc := 17) hB dX3_add_17 0 rfl ?_
        refine gx_get (pc := 18) hB dX3_add_18 inX3 rfl 0 rfl 3 (by decide) tb_103 rfl rfl ?_
        refine gx_icmp_ge (pc := 21) hB 48 dX3_add_21 (by decide) (fun c_4 => ?_) (fun c_4 => ?_)
        · have f0 : tAdd C s m w r k v = C := by simp [tAdd, tOk, c_1, eq_false c_1, Int32.not_le.mp c_2, eq_false c_2, c_3, eq_false c_3, c_4, eq_false (Int32.not_lt.mpr c_4)]
          exact gx_vret (pc := 48) hC dX3_add_48 (Nat.zero_le _) (Nat.zero_le _) (⟨rfl, by rw [f0]⟩)
        · refine gx_aload_n (pc := 24) hB dX3_add_24 0 rfl ?_
          refine gx_get (pc := 25) hB dX3_add_25 inX3 rfl 0 rfl 0 (by decide) tb_100 rfl rfl ?_
          refine gx_aload_n (pc := 28) hB dX3_add_28 0 rfl ?_
          refine gx_get (pc := 29) hB dX3_add_29 inX3 rfl 0 rfl 1 (by decide) tb_101 rfl rfl ?_
          refine gx_iconst (pc := 32) hB dX3_add_32 1 (by decide) ?_
          refine gx_iadd (pc := 33) hB dX3_add_33 ?_
          refine gx_top (show nI s + 1 = nI (s + 1) from nI_add s 1) ?_
          refine gx_iload_n (pc := 34) hB dX3_add_34 1 rfl ?_
          refine gx_aload_n (pc := 35) hB dX3_add_35 0 rfl ?_
          refine gx_get (pc := 36) hB dX3_add_36 inX3 rfl 0 rfl 3 (by decide) tb_103 rfl rfl ?_
          refine gx_imul (pc := 39) hB dX3_add_39 ?_
          refine gx_iadd (pc := 40) hB dX3_add_40 ?_
          refine gx_iload_n (pc := 41) hB dX3_add_41 2 rfl ?_
          refine gx_iadd (pc := 42) hB dX3_add_42 ?_
          refine gx_dup2 (pc := 43) hB dX3_add_43 rfl rfl ?_
          refine gx_iald (pc := 44) hB dX3_add_44 1 1 rfl rfl (tIx s w r k) (tIx_eq h0 c_1 c_2 c_3 (Int32.not_le.mp c_4)).1 (tIx_eq h0 c_1 c_2 c_3 (Int32.not_le.mp c_4)).2 (by decide) ?_
          refine gx_iload_n (pc := 45) hB dX3_add_45 3 rfl ?_
          refine gx_iadd (pc := 46) hB dX3_add_46 ?_
          refine gx_iast (pc := 47) hB dX3_add_47 1 1 rfl rfl (tIx s w r k) (tIx_eq h0 c_1 c_2 c_3 (Int32.not_le.mp c_4)).1 (tIx_eq h0 c_1 c_2 c_3 (Int32.not_le.mp c_4)).2 (by decide) (wT K t c s m w (upd C (tIx s w r k) ((C (tIx s w r k)) + v))) rfl ?_
          have f0 : tAdd C s m w r k v = upd C (tIx s w r k) ((C (tIx s w r k)) + v) := by simp [tAdd, tOk, c_1, eq_false c_1, Int32.not_le.mp c_2, eq_false c_2, c_3, eq_false c_3, Int32.not_le.mp c_4, eq_false c_4]
          exact gx_vret (pc := 48) hC dX3_add_48 (Nat.zero_le _) (Nat.zero_le _) (⟨rfl, by rw [f0]⟩)
theorem pX3_sumOf : (parseMethodDescriptor yX3_sumOf.desc).map (fun d => d.parameters.length) = some 1 := by decide +kernel
theorem mX3_sumOf : gx_M yX3_sumOf cX3_sumOf 4 (some .int) := ⟨tb_513, tb_514, tb_70, tb_515, by decide, by decide⟩
set_option maxHeartbeats 4000000 in
set_option maxRecDepth 100000 in
theorem c_X3_sumOf (l : Launch) (K : gx_K) (t c s m w : Nat) (C : Nat → Int32) (k : Int32) (h0 : tHb s m w) : gx_Ctr l K yX3_sumOf cX3_sumOf 4 (some .int) (rmm 2 22) [.ref t, .int k] (wT K t c s m w C) (gx_D (some (.int (tSum C s m w k))) (wT K t c s m w C)) := by
  refine gx_of (by decide) (Nat.le_of_ble_eq_true rfl) (fun G hC => ?_)
  have hB := hC.b
  refine gx_lv (lv' := [(0, .ref t), (1, .int k)]) rfl ?_
  refine gx_iconst (pc := 0) hB dX3_sumOf_0 0 (by decide) ?_
  refine gx_istore_n (pc := 1) hB dX3_sumOf_1 (by decide) [(2, .int 0), (0, .ref t), (1, .int k)] rfl ?_
  refine gx_iconst (pc := 2) hB dX3_sumOf_2 0 (by decide) ?_
  refine gx_istore_n (pc := 3) hB dX3_sumOf_3 (by decide) [(3, .int 0), (2, .int 0), (0, .ref t), (1, .int k)] rfl ?_
  have loop_4 : ∀ d i : Nat, i + d = (C s).toNatClampNeg → G 0 0 (wT K t c s m w C) [(0, .ref t), (1, .int k), (2, .int (tSumN C s m w k i)), (3, .int (nI i))] 4 [] := by
    intro d
    induction d with
    | zero =>
      intro i hi
      have hN4 : (C s).toNatClampNeg = i := by omega
      refine gx_iload_n (pc := 4) hB dX3_sumOf_4 3 rfl ?_
      refine gx_aload_n (pc := 5) hB dX3_sumOf_5 0 rfl ?_
      refine gx_get (pc := 6) hB dX3_sumOf_6 inX3 rfl 0 rfl 0 (by decide) tb_100 rfl rfl ?_
      refine gx_aload_n (pc := 9) hB dX3_sumOf_9 0 rfl ?_
      refine gx_get (pc := 10) hB dX3_sumOf_10 inX3 rfl 0 rfl 1 (by decide) tb_101 rfl rfl ?_
      refine gx_iald (pc := 13) hB dX3_sumOf_13 1 1 rfl rfl s rfl (by unfold tHb at h0; omega) (by decide) ?_
      refine gx_icmp_ge (pc := 14) hB 32 dX3_sumOf_14 (by decide) (fun c_1 => ?_) (fun c_1 => ?_)
      · refine gx_iload_n (pc := 32) hB dX3_sumOf_32 2 rfl ?_
        have e1 : tSum C s m w k = tSumN C s m w k i := by simp [tSum, tSumN, hN4, c_1, eq_false (Int32.not_lt.mpr c_1)]
        exact gx_iret (pc := 33) hC dX3_sumOf_33 (Nat.zero_le _) (Nat.zero_le _) (⟨by rw [e1], rfl⟩)
      · exact absurd (lpT hi) c_1
    | succ d ih =>
      intro i hi
      refine gx_iload_n (pc := 4) hB dX3_sumOf_4 3 rfl ?_
      refine gx_aload_n (pc := 5) hB dX3_sumOf_5 0 rfl ?_
      refine gx_get (pc := 6) hB dX3_sumOf_6 inX3 rfl 0 rfl 0 (by decide) tb_100 rfl rfl ?_
      refine gx_aload_n (pc := 9) hB dX3_sumOf_9 0 rfl ?_
      refine gx_get (pc := 10) hB dX3_sumOf_10 inX3 rfl 0 rfl 1 (by decide) tb_101 rfl rfl ?_
      refine gx_iald (pc := 13) hB dX3_sumOf_13 1 1 rfl rfl s rfl (by unfold tHb at h0; omega) (by decide) ?_
      refine gx_icmp_ge (pc := 14) hB 32 dX3_sumOf_14 (by decide) (fun c_2 => ?_) (fun c_2 => ?_)
      · exact absurd c_2 (lpF hi)
      · refine gx_iload_n (pc := 17) hB dX3_sumOf_17 2 rfl ?_
        refine gx_aload_n (pc := 18) hB dX3_sumOf_18 0 rfl ?_
        refine gx_iload_n (pc := 19) hB dX3_sumOf_19 3 rfl ?_
        refine gx_iload_n (pc := 20) hB dX3_sumOf_20 1 rfl ?_
        refine gx_dVi (pc := 21) (wr := []) hB (c_X3_at l K t c s m w C (nI i) k (by first | assumption | omega | decide)) mX3_at dX3_sumOf_21 tb_516 pX3_at ⟨Nat.le_of_ble_eq_true rfl, Nat.le_of_ble_eq_true rfl⟩ ⟨rfl, rfl⟩ ⟨Nat.zero_le _, Nat.zero_le _⟩ rfl (Nat.le_of_ble_eq_true rfl) [0, 1] [] rfl rfl (by decide) (by decide) (by decide) rfl rfl [0, 1] (by decide) (wT K t c s m w C) rfl ?_
        refine gx_iadd (pc := 24) hB dX3_sumOf_24 ?_
        refine gx_istore_n (pc := 25) hB dX3_sumOf_25 (by decide) [(2, .int (tSumN C s m w k i + (tAt C s m w (nI i) k))), (0, .ref t), (1, .int k), (3, .int (nI i))] rfl ?_
        refine gx_iinc (pc := 26) hB dX3_sumOf_26 3 (by decide) rfl (nI (i + 1)) (nI_1 _) [(3, .int (nI (i + 1))), (2, .int (tSumN C s m w k i + (tAt C s m w (nI i) k))), (0, .ref t), (1, .int k)] rfl ?_
        refine gx_goto (pc := 29) hB 4 dX3_sumOf_29 (by decide) ?_
        have g2 : tSumN C s m w k i + (tAt C s m w (nI i) k) = tSumN C s m w k (i + 1) := by simp [tSum, tSumN, Int32.not_le.mp c_2, eq_false c_2]
        rw [g2]
        refine gx_sub hB (lv' := [(0, .ref t), (1, .int k), (2, .int (tSumN C s m w k (i + 1))), (3, .int (nI (i + 1)))]) [2, 3, 1, 0] rfl ?_
        exact ih (i + 1) (by omega)
  refine gx_sub hB (lv' := [(0, .ref t), (1, .int k), (2, .int (tSumN C s m w k 0)), (3, .int (nI 0))]) [2, 3, 1, 0] rfl ?_
  exact loop_4 ((C s).toNatClampNeg) 0 (by omega)
end
section
/-! Books, purely: each method's answer and the cells behind it, after the program's own text. -/
def bIn (v lo hi : Int32) : Bool := decide (¬ v < lo) && decide (¬ hi < v)
def pAt (C : Nat → Int32) (r k : Int32) : Int32 := tAt C 3 6 12 r k
def dAt (C : Nat → Int32) (r k : Int32) : Int32 := tAt C 76 8 7 r k
def gAt (C : Nat → Int32) (r k : Int32) : Int32 := tAt C 133 24 7 r k
def kAt (C : Nat → Int32) (r k : Int32) : Int32 := tAt C 302 6 8 r k
def pPut (C : Nat → Int32) (r k v : Int32) : Nat → Int32 := tPut C 3 6 12 r k v
def dPut (C : Nat → Int32) (r k v : Int32) : Nat → Int32 := tPut C 76 8 7 r k v
def gPut (C : Nat → Int32) (r k v : Int32) : Nat → Int32 := tPut C 133 24 7 r k v
def kPut (C : Nat → Int32) (r k v : Int32) : Nat → Int32 := tPut C 302 6 8 r k v
def pAdd (C : Nat → Int32) (r k v : Int32) : Nat → Int32 := tAdd C 3 6 12 r k v
def kAdd (C : Nat → Int32) (r k v : Int32) : Nat → Int32 := tAdd C 302 6 8 r k v
abbrev gx_R : Type := Int32 × (Nat → Int32)
-- purposes, donors
def bAddPurpose (C : Nat → Int32) : gx_R := if tNew C 3 6 = (-1) then ((-3), tNewC C 3 6) else (tNew C 3 6, pPut (pPut (tNewC C 3 6) (tNew C 3 6) 9 (-1)) (tNew C 3 6) 10 (tNew C 3 6))
def bDonorN (C : Nat → Int32) (d : Int32) : Nat → Nat → Int32
  | 0 => C
  | n + 1 => dPut (bDonorN C d n) d (nI (1 + n)) (-1)
def bAddDonor (C : Nat → Int32) : gx_R := if tNew C 76 8 = (-1) then ((-3), tNewC C 76 8) else (tNew C 76 8, bDonorN (tNewC C 76 8) (tNew C 76 8) 6)
def bDeclare (C : Nat → Int32) (d v : Int32) : gx_R := if tHas C 76 d && bIn v 0 1 then (dAt C d 0, dPut C d 0 v) else ((-1), C)
def bClosed (C : Nat → Int32) (p : Int32) : Bool := decide (¬ pAt C p 9 = (-1))
-- gifts
def bBook (C : Nat → Int32) (d p a k : Int32) : gx_R :=
  let g := tNew C 133 24
  let C1 := gPut (gPut (gPut (tNewC C 133 24) g 0 d) g 1 p) g 2 a
  (g, pAdd (pAdd (gPut (gPut C1 g 3 (C1 0)) g 6 k) p 0 a) p 1 a)
def bGive (C : Nat → Int32) (d p a : Int32) : gx_R :=
  if tHas C 76 d && tHas C 3 p && bIn a 1 9999 then (if bClosed C p then ((-2), C) else if tFull C 133 24 then ((-3), C) else bBook C d p a (-1)) else ((-1), C)
def bTax (C : Nat → Int32) (g : Int32) : Int32 := gAt C g 2 / 4
def bHome (C : Nat → Int32) (g : Int32) : Int32 := pAt C (gAt C g 1) 10
def bIsOf (C : Nat → Int32) (g d : Int32) : Bool := decide (gAt C g 0 = d)
def bClaimed (C : Nat → Int32) (g : Int32) : Bool := decide (gAt C g 4 = 1)
def bRefunded (C : Nat → Int32) (g : Int32) : Bool := decide (gAt C g 5 = 1)
-- pledges
def bSpan (m : Int32) : Bool := bIn m 1 60
def bPledge (C : Nat → Int32) (d p a m : Int32) : gx_R :=
  if tHas C 76 d && tHas C 3 p && bIn a 1 999 && bSpan m then (if bClosed C p then ((-2), C) else if tNew C 302 6 = (-1) then ((-3), tNewC C 302 6) else (tNew C 302 6, kPut (kPut (kPut (kPut (tNewC C 302 6) (tNew C 302 6) 0 d) (tNew C 302 6) 1 p) (tNew C 302 6) 2 a) (tNew C 302 6) 3 m)) else ((-1), C)
def bRunning (C : Nat → Int32) (k : Int32) : Bool := decide (kAt C k 5 = 0)
def bMiss (C : Nat → Int32) (k : Int32) : gx_R :=
  if tHas C 302 k then (if !bRunning C k || decide (kAt C k 7 = 1) then ((-2), C) else (kAt (kPut C k 7 1) k 4, kPut C k 7 1)) else ((-1), C)
def bHalt (C : Nat → Int32) (k : Int32) : Nat → Int32 := kPut (kPut C k 5 2) k 7 0
def bStop (C : Nat → Int32) (k : Int32) : gx_R :=
  if tHas C 302 k then (if bRunning C k then (kAt (bHalt C k) k 3, bHalt C k) else ((-2), C)) else ((-1), C)
-- months
def bRunMid (C1 : Nat → Int32) (k : Int32) : (Nat → Int32) × Bool :=
  if kAt C1 k 7 = 1 then (kAdd (kPut C1 k 7 0) k 4 1, decide (3 ≤ kAt (kAdd (kPut C1 k 7 0) k 4 1) k 4))
  else if tFull C1 133 24 then (C1, true)
  else (kAdd (bBook C1 (kAt C1 k 0) (kAt C1 k 1) (kAt C1 k 2) k).2 k 6 1, false)
def bRun (C : Nat → Int32) (k : Int32) : Nat → Int32 :=
  let r := bRunMid (kAdd C k 3 (-1)) k
  if r.2 then kPut r.1 k 5 3 else if kAt r.1 k 3 = 0 then kPut r.1 k 5 1 else r.1
def bRunN (C : Nat → Int32) : Nat → Nat → Int32
  | 0 => C
  | n + 1 => if bRunning (bRunN C n) (nI n) then bRun (bRunN C n) (nI n) else bRunN C n
def bMonth (C : Nat → Int32) : Nat → Int32 := bRunN (upd C 0 (C 0 + 1)) ((upd C 0 (C 0 + 1)) 302).toNatClampNeg
def bMonths (C : Nat → Int32) : Nat → Nat → Int32
  | 0 => C
  | n + 1 => bMonth (bMonths C n)
def bPass (C : Nat → Int32) (m last : Int32) : gx_R :=
  if bSpan m then (if last < C 0 + m then ((-3), C) else (bMonths C m.toNatClampNeg 133 - C 133, bMonths C m.toNatClampNeg)) else ((-1), C)
-- claims
def bYearN (C : Nat → Int32) (d y : Int32) : Nat → Int32
  | 0 => 0
  | n + 1 => if gAt C (nI n) 0 = d ∧ gAt C (nI n) 3 / 12 = y ∧ gAt C (nI n) 4 = 1 ∧ gAt C (nI n) 5 = 0 then bYearN C d y n + gAt C (nI n) 2 else bYearN C d y n
def bYear (C : Nat → Int32) (d y : Int32) : Int32 := bYearN C d y (C 133).toNatClampNeg
def bCan (C : Nat → Int32) (g : Int32) : Bool :=
  if bClaimed C g || bRefunded C g || decide (dAt C (gAt C g 0) 0 = 0) then false
  else if 47 < C 0 - gAt C g 3 then false
  else decide (bYear C (gAt C g 0) (gAt C g 3 / 12) + gAt C g 2 ≤ C 2)
def bClaimC (C : Nat → Int32) (g : Int32) : Nat → Int32 :=
  pAdd (pAdd (gPut C g 4 1) (bHome (gPut C g 4 1) g) 0 (bTax (gPut C g 4 1) g)) (bHome (pAdd (gPut C g 4 1) (bHome (gPut C g 4 1) g) 0 (bTax (gPut C g 4 1) g)) g) 2 (bTax (pAdd (gPut C g 4 1) (bHome (gPut C g 4 1) g) 0 (bTax (gPut C g 4 1) g)) g)
def bClaimN (C : Nat → Int32) (d : Int32) : Nat → Int32 × Bool × (Nat → Int32)
  | 0 => (0, false, C)
  | n + 1 =>
    if (decide (d = (-1)) || bIsOf (bClaimN C d n).2.2 (nI n) d) && bCan (bClaimN C d n).2.2 (nI n)
    then ((bClaimN C d n).1 + bTax (bClaimC (bClaimN C d n).2.2 (nI n)) (nI n), true, bClaimC (bClaimN C d n).2.2 (nI n))
    else bClaimN C d n
def bClaim (C : Nat → Int32) (d : Int32) : gx_R :=
  (if (bClaimN C d (C 133).toNatClampNeg).2.1 then (bClaimN C d (C 133).toNatClampNeg).1 else (-2), (bClaimN C d (C 133).toNatClampNeg).2.2)
-- spending, refunds
def bFund (C : Nat → Int32) (p : Int32) : Int32 := pAt C p 0
def bSpendH (C : Nat → Int32) (p a : Int32) : Int32 := if 0 < a - bFund C p then a - bFund C p else 0
def bSpendC (C : Nat → Int32) (p a h : Int32) : Nat → Int32 := pAdd (pAdd (pAdd (pAdd (pAdd C p 0 (h - a)) p 3 a) p 4 h) 0 0 (-h)) 0 11 h
def bSpend (C : Nat → Int32) (p a : Int32) : gx_R :=
  if tHas C 3 p && bIn a 1 9999 then
    (if bClosed C p then ((-2), C)
     else if 0 < bSpendH C p a ∧ (p = 0 ∨ bFund C 0 < bSpendH C p a) then ((-2), C)
     else (bSpendH C p a, bSpendC C p a (bSpendH C p a)))
  else ((-1), C)
def bRefundC (C : Nat → Int32) (g h a t : Int32) : Nat → Int32 := pAdd (pAdd (pAdd (gPut C g 5 1) h 0 (-a - t)) h 5 a) h 6 t
def bRefund (C : Nat → Int32) (g : Int32) : gx_R :=
  if tHas C 133 g then
    (if bRefunded C g ∨ bFund C (bHome C g) < gAt C g 2 + (if bClaimed C g then bTax C g else 0) then ((-2), C)
     else (if bClaimed C g then bTax C g else 0, bRefundC C g (bHome C g) (gAt C g 2) (if bClaimed C g then bTax C g else 0)))
  else ((-1), C)
-- merging
def bTwo (C : Nat → Int32) (f i : Int32) : Bool := tHas C 3 f && tHas C 3 i && decide (¬ f = i)
def bMergeable (C : Nat → Int32) (f i : Int32) : Bool := decide (¬ f = 0) && !bClosed C f && !bClosed C i
def bAgrees (C : Nat → Int32) (d f i : Int32) : Bool := decide (dAt C d (1 + f) = i)
def bWeight (C : Nat → Int32) (g p : Int32) : Int32 := if gAt C g 1 = p ∧ gAt C g 5 = 0 then gAt C g 2 else 0
def bWDonorN (C : Nat → Int32) (d p : Int32) : Nat → Int32
  | 0 => 0
  | n + 1 => if bIsOf C (nI n) d then bWDonorN C d p n + bWeight C (nI n) p else bWDonorN C d p n
def bWDonor (C : Nat → Int32) (d p : Int32) : Int32 := bWDonorN C d p (C 133).toNatClampNeg
def bWAllN (C : Nat → Int32) (p : Int32) : Nat → Int32
  | 0 => 0
  | n + 1 => bWAllN C p n + bWeight C (nI n) p
def bWAll (C : Nat → Int32) (p : Int32) : Int32 := bWAllN C p (C 133).toNatClampNeg
def bWConsN (C : Nat → Int32) (f i : Int32) : Nat → Int32
  | 0 => 0
  | n + 1 => if bAgrees C (gAt C (nI n) 0) f i then bWConsN C f i n + bWeight C (nI n) f else bWConsN C f i n
def bWCons (C : Nat → Int32) (f i : Int32) : Int32 := bWConsN C f i (C 133).toNatClampNeg
def bAgree (C : Nat → Int32) (d f i : Int32) : gx_R :=
  if tHas C 76 d && bTwo C f i then (if bMergeable C f i then (bWDonor (dPut C d (1 + f) i) d f, dPut C d (1 + f) i) else ((-2), C)) else ((-1), C)
def bHandN (C : Nat → Int32) (f i : Int32) : Nat → Nat → Int32
  | 0 => C
  | n + 1 =>
    if bRunning (bHandN C f i n) (nI n) ∧ kAt (bHandN C f i n) (nI n) 1 = f then
      (if bAgrees (bHandN C f i n) (kAt (bHandN C f i n) (nI n) 0) f i then kPut (bHandN C f i n) (nI n) 1 i else bHalt (bHandN C f i n) (nI n))
    else bHandN C f i n
def bHand (C : Nat → Int32) (f i : Int32) : Nat → Int32 := bHandN C f i (C 302).toNatClampNeg
def bForgetN (C : Nat → Int32) (f : Int32) : Nat → Nat → Int32
  | 0 => C
  | n + 1 => dPut (bForgetN C f n) (nI n) (1 + f) (-1)
def bForget (C : Nat → Int32) (f : Int32) : Nat → Int32 := bForgetN C f (C 76).toNatClampNeg
def bCloseN (C : Nat → Int32) (f i : Int32) : Nat → Nat → Int32
  | 0 => C
  | n + 1 => if pAt (bCloseN C f i n) (nI n) 10 = f then pPut (bCloseN C f i n) (nI n) 10 i else bCloseN C f i n
def bClose (C : Nat → Int32) (f i : Int32) : Nat → Int32 := bCloseN (pPut C f 9 i) f i (C 3).toNatClampNeg
def bMove (C : Nat → Int32) (f i : Int32) : gx_R := (bFund C f, pAdd (pAdd (pAdd (pPut C f 0 0) f 8 (bFund C f)) i 0 (bFund C f)) i 7 (bFund C f))
def bMerge (C : Nat → Int32) (f i : Int32) : gx_R :=
  if bTwo C f i then
    (if bMergeable C f i ∧ ¬ bWAll C f = 0 ∧ C 1 * bWAll C f ≤ bWCons C f i * 100 then bMove (bClose (bForget (bHand C f i) f) f i) f i else ((-2), C))
  else ((-1), C)
def bConsents (C : Nat → Int32) (f i : Int32) : Int32 := if bTwo C f i then (if 0 < bWAll C f then bWCons C f i * 100 / bWAll C f else (-4)) else (-1)
-- settings
def bSet (C : Nat → Int32) (w v : Int32) : gx_R :=
  if w = 0 then (if bIn v 1 100 then (C 1, upd C 1 v) else ((-1), C))
  else if w = 1 then (if bIn v 0 99999 then (C 2, upd C 2 v) else ((-1), C)) else ((-1), C)
-- what there is
def bTellP (C : Nat → Int32) (p w : Int32) : Int32 := if tHas C 3 p && bIn w 0 11 then (if w = 9 ∧ bClosed C p = false then (-4) else pAt C p w) else (-1)
def bTellCons (C : Nat → Int32) (d w : Int32) : Int32 := if w < 10 ∨ tHas C 3 (w - 10) = false then (-1) else if dAt C d (1 + w - 10) = (-1) then (-4) else dAt C d (1 + w - 10)
def bAmtN (C : Nat → Int32) (d w : Int32) : Nat → Int32
  | 0 => 0
  | n + 1 => if (w = 1 ∨ (w = 2 ∧ bRefunded C (nI n)) ∨ (w = 3 ∧ bClaimed C (nI n) ∧ bRefunded C (nI n) = false)) ∧ bIsOf C (nI n) d then bAmtN C d w n + gAt C (nI n) 2 else bAmtN C d w n
def bAmt (C : Nat → Int32) (d w : Int32) : Int32 := bAmtN C d w (C 133).toNatClampNeg
def bRunSetN (C : Nat → Int32) (d : Int32) : Nat → Int32
  | 0 => 0
  | n + 1 => if bRunning C (nI n) ∧ kAt C (nI n) 0 = d then bRunSetN C d n ||| (1 <<< (nI n &&& 31)) else bRunSetN C d n
def bRunSet (C : Nat → Int32) (d : Int32) : Int32 := bRunSetN C d (C 302).toNatClampNeg
def bTellD (C : Nat → Int32) (d w : Int32) : Int32 :=
  if tHas C 76 d then (if w = 0 then dAt C d 0 else if w = 1 ∨ w = 2 ∨ w = 3 then bAmt C d w else if w = 4 then bRunSet C d else bTellCons C d w) else (-1)
def bTellG (C : Nat → Int32) (g w : Int32) : Int32 :=
  if tHas C 133 g && bIn w 0 7 then (if w = 7 then bTax C g else if w = 6 ∧ gAt C g w = (-1) then (-4) else gAt C g w) else (-1)
def bTellK (C : Nat → Int32) (k w : Int32) : Int32 := if tHas C 302 k && bIn w 0 7 then kAt C k w else (-1)
def bShutN (C : Nat → Int32) : Nat → Int32
  | 0 => 0
  | n + 1 => if bClosed C (nI n) then bShutN C n + 1 else bShutN C n
def bShut (C : Nat → Int32) : Int32 := bShutN C (C 3).toNatClampNeg
def bTellN (C : Nat → Int32) (w : Int32) : Int32 :=
  if w = 0 then C 3 else if w = 1 then C 76 else if w = 2 then C 133 else if w = 3 then C 302 else if w = 4 then C 0
  else if w = 5 then tSum C 3 6 12 0 else if w = 6 then tSum C 3 6 12 3 else if w = 7 then tSum C 3 6 12 2 else if w = 8 then tSum C 3 6 12 6 else if w = 9 then tSum C 3 6 12 5
  else if w = 10 then bShut C else if w = 13 then C 1 else if w = 14 then C 2 else (-1)
/-! what stays: a table's cells lie between s and s + m * w -/
theorem tOk_in {m w : Nat} {r k : Int32} {s : Nat} (hb : tHb s m w) (h : tOk m w r k = true) : s < tIx s w r k ∧ tIx s w r k ≤ s + m * w := by
  simp only [tOk, Bool.and_eq_true, decide_eq_true_eq] at h
  obtain ⟨⟨⟨h1, h2⟩, h3⟩, h4⟩ := h
  obtain ⟨r', hr, rfl⟩ := nI_of h1
  obtain ⟨c', hc, rfl⟩ := nI_of h3
  obtain ⟨b1, b2, b3⟩ := hb
  have h5 : r' < m := by
    rcases Nat.lt_or_ge r' m with q | q
    · exact q
    · exact absurd (nI_le q hr) h2
  have h6 : c' < w := (nI_ltI hc (by omega)).mp h4
  have h7 : (r' + 1) * w ≤ m * w := Nat.mul_le_mul_right w h5
  rw [Nat.add_mul] at h7
  unfold tIx
  rw [nI_clamp hr, nI_clamp hc]
  omega
theorem upd_ne {f : Nat → Int32} {k j : Nat} {x : Int32} (h : j ≠ k) : upd f k x j = f j := if_neg h
theorem upd_eq {f : Nat → Int32} {k : Nat} {x : Int32} : upd f k x k = x := if_pos rfl
theorem tPut_out {C : Nat → Int32} {s m w j : Nat} {r k v : Int32} (hb : tHb s m w) (h : j ≤ s ∨ s + m * w < j) : tPut C s m w r k v j = C j := by
  unfold tPut
  split
  · next q => have := tOk_in hb q; exact upd_ne (by omega)
  · rfl
theorem tAdd_out {C : Nat → Int32} {s m w j : Nat} {r k v : Int32} (hb : tHb s m w) (h : j ≤ s ∨ s + m * w < j) : tAdd C s m w r k v j = C j := by
  unfold tAdd
  split
  · next q => have := tOk_in hb q; exact upd_ne (by omega)
  · rfl
theorem tNewC_out {C : Nat → Int32} {s m j : Nat} (h : j ≠ s) : tNewC C s m j = C j := by
  unfold tNewC
  split
  · rfl
  · exact upd_ne h
theorem hbP : tHb 3 6 12 := by unfold tHb; decide
theorem hbD : tHb 76 8 7 := by unfold tHb; decide
theorem hbG : tHb 133 24 7 := by unfold tHb; decide
theorem hbK : tHb 302 6 8 := by unfold tHb; decide
theorem pPut_out {C : Nat → Int32} {r k v : Int32} {j : Nat} (h : j ≤ 3 ∨ 75 < j) : pPut C r k v j = C j := tPut_out hbP h
theorem pAdd_out {C : Nat → Int32} {r k v : Int32} {j : Nat} (h : j ≤ 3 ∨ 75 < j) : pAdd C r k v j = C j := tAdd_out hbP h
theorem dPut_out {C : Nat → Int32} {r k v : Int32} {j : Nat} (h : j ≤ 76 ∨ 132 < j) : dPut C r k v j = C j := tPut_out hbD h
theorem gPut_out {C : Nat → Int32} {r k v : Int32} {j : Nat} (h : j ≤ 133 ∨ 301 < j) : gPut C r k v j = C j := tPut_out hbG h
theorem kPut_out {C : Nat → Int32} {r k v : Int32} {j : Nat} (h : j ≤ 302) : kPut C r k v j = C j := tPut_out hbK (Or.inl h)
theorem kAdd_out {C : Nat → Int32} {r k v : Int32} {j : Nat} (h : j ≤ 302) : kAdd C r k v j = C j := tAdd_out hbK (Or.inl h)
theorem bBook_302 (C : Nat → Int32) (d p a k : Int32) : (bBook C d p a k).2 302 = C 302 := by
  simp [bBook, pAdd_out, gPut_out, tNewC_out]
theorem bRun_302 (C : Nat → Int32) (k : Int32) : bRun C k 302 = C 302 := by
  have h : ∀ C1, (bRunMid C1 k).1 302 = C1 302 := fun C1 => by
    unfold bRunMid
    split
    · simp [kAdd_out, kPut_out]
    · split
      · rfl
      · simp [kAdd_out, bBook_302]
  unfold bRun
  try dsimp only
  split
  · simp [kPut_out, kAdd_out, h]
  · split <;> simp [kPut_out, kAdd_out, h]
theorem bRunN_302 (C : Nat → Int32) (n : Nat) : bRunN C n 302 = C 302 := by
  induction n with
  | zero => rfl
  | succ n ih =>
    unfold bRunN
    split
    · rw [bRun_302, ih]
    · exact ih
theorem bClaimN_133 (C : Nat → Int32) (d : Int32) (n : Nat) : (bClaimN C d n).2.2 133 = C 133 := by
  induction n with
  | zero => rfl
  | succ n ih =>
    unfold bClaimN
    split
    · simp [bClaimC, pAdd_out, gPut_out, ih]
    · exact ih
theorem bHandN_302 (C : Nat → Int32) (f i : Int32) (n : Nat) : bHandN C f i n 302 = C 302 := by
  induction n with
  | zero => rfl
  | succ n ih =>
    unfold bHandN
    split
    · split <;> simp [bHalt, kPut_out, ih]
    · exact ih
theorem bForgetN_76 (C : Nat → Int32) (f : Int32) (n : Nat) : bForgetN C f n 76 = C 76 := by
  induction n with
  | zero => rfl
  | succ n ih => simp [bForgetN, dPut_out, ih]
theorem bCloseN_3 (C : Nat → Int32) (f i : Int32) (n : Nat) : bCloseN C f i n 3 = C 3 := by
  induction n with
  | zero => rfl
  | succ n ih =>
    unfold bCloseN
    split
    · simp [pPut_out, ih]
    · exact ih
abbrev wB (K : gx_K) (h t1 t2 t3 t4 c : Nat) (C : Nat → Int32) : va_W := [(h, .inr (0, [.ref c, .ref t1, .ref t2, .ref t3, .ref t4])), (t1, .inr (3, [.ref c, .int (nI 3), .int (nI 6), .int (nI 12)])), (t2, .inr (3, [.ref c, .int (nI 76), .int (nI 8), .int (nI 7)])), (t3, .inr (3, [.ref c, .int (nI 133), .int (nI 24), .int (nI 7)])), (t4, .inr (3, [.ref c, .int (nI 302), .int (nI 6), .int (nI 8)])), (c, .inl (K.2.1.2.1, 351, .inl C))]
end
section
theorem pX4_within : (parseMethodDescriptor yX4_within.desc).map (fun d => d.parameters.length) = some 3 := by decide +kernel
theorem mX4_within : gx_MS yX4_within cX4_within 3 (some .boolean) := ⟨tb_243, tb_68, tb_244, by decide, by decide⟩
set_option maxHeartbeats 4000000 in
set_option maxRecDepth 100000 in
theorem c_X4_within (l : Launch) (K : gx_K) (v lo hi : Int32)  : gx_Ctr l K yX4_within cX4_within 3 (some .boolean) (rmm 1 0) [.int v, .int lo, .int hi] [] (gx_D (some (.int (bI (bIn v lo hi)))) []) := by
  refine gx_of (by decide) (Nat.le_of_ble_eq_true rfl) (fun G hC => ?_)
  have hB := hC.b
  refine gx_lv (lv' := [(0, .int v), (1, .int lo), (2, .int hi)]) rfl ?_
  refine gx_iload_n (pc := 0) hB dX4_within_0 0 rfl ?_
  refine gx_iload_n (pc := 1) hB dX4_within_1 1 rfl ?_
  refine gx_icmp_lt (pc := 2) hB 14 dX4_within_2 (by decide) (fun c_1 => ?_) (fun c_1 => ?_)
  · refine gx_iconst (pc := 14) hB dX4_within_14 0 (by decide) ?_
    have e1 : bI (bIn v lo hi) = 0 := by simp [bIn, bI, c_1, eq_false (Int32.not_le.mpr c_1)]
    exact gx_zret (pc := 15) hC dX4_within_15 (Nat.zero_le _) (Nat.zero_le _) (by decide) (⟨by rw [e1], rfl⟩)
  · refine gx_iload_n (pc := 5) hB dX4_within_5 0 rfl ?_
    refine gx_iload_n (pc := 6) hB dX4_within_6 2 rfl ?_
    refine gx_icmp_gt (pc := 7) hB 14 dX4_within_7 (by decide) (fun c_2 => ?_) (fun c_2 => ?_)
    · refine gx_iconst (pc := 14) hB dX4_within_14 0 (by decide) ?_
      have e1 : bI (bIn v lo hi) = 0 := by simp [bIn, bI, c_1, eq_false c_1, c_2, eq_false (Int32.not_le.mpr c_2)]
      exact gx_zret (pc := 15) hC dX4_within_15 (Nat.zero_le _) (Nat.zero_le _) (by decide) (⟨by rw [e1], rfl⟩)
    · refine gx_iconst (pc := 10) hB dX4_within_10 1 (by decide) ?_
      refine gx_goto (pc := 11) hB 15 dX4_within_11 (by decide) ?_
      have e1 : bI (bIn v lo hi) = 1 := by simp [bIn, bI, c_1, eq_false c_1, c_2, eq_false c_2]
      exact gx_zret (pc := 15) hC dX4_within_15 (Nat.zero_le _) (Nat.zero_le _) (by decide) (⟨by rw [e1], rfl⟩)
theorem pX0_addPurpose : (parseMethodDescriptor yX0_addPurpose.desc).map (fun d => d.parameters.length) = some 0 := by decide +kernel
theorem mX0_addPurpose : gx_M yX0_addPurpose cX0_addPurpose 2 (some .int) := ⟨tb_115, tb_116, tb_69, tb_117, by decide, by decide⟩
set_option maxHeartbeats 4000000 in
set_option maxRecDepth 100000 in
theorem c_X0_addPurpose (l : Launch) (K : gx_K) (h t1 t2 t3 t4 c : Nat) (C : Nat → Int32)   : gx_Ctr l K yX0_addPurpose cX0_addPurpose 2 (some .int) (rmm 2 23) [.ref h] (wB K h t1 t2 t3 t4 c C) (gx_D (some (.int ((bAddPurpose C).1))) (wB K h t1 t2 t3 t4 c ((bAddPurpose C).2))) := by
  refine gx_of (by decide) (Nat.le_of_ble_eq_true rfl) (fun G hC => ?_)
  have hB := hC.b
  refine gx_lv (lv' := [(0, .ref h)]) rfl ?_
  refine gx_aload_n (pc := 0) hB dX0_addPurpose_0 0 rfl ?_
  refine gx_get (pc := 1) hB dX0_addPurpose_1 inX0 rfl 0 rfl 1 (by decide) tb_127 rfl rfl ?_
  refine gx_dVi (pc := 4) (r := tNew C 3 6) (wr := [(h, .inr (0, [.ref c, .ref t1, .ref t2, .ref t3, .ref t4])), (t2, .inr (3, [.ref c, .int (nI 76), .int (nI 8), .int (nI 7)])), (t3, .inr (3, [.ref c, .int (nI 133), .int (nI 24), .int (nI 7)])), (t4, .inr (3, [.ref c, .int (nI 302), .int (nI 6), .int (nI 8)]))]) hB (c_X3_addRow l K t1 c 3 6 12 C (by first | decide | (unfold tHb; decide))) mX3_addRow dX0_addPurpose_4 tb_118 pX3_addRow ⟨Nat.le_of_ble_eq_true rfl, Nat.le_of_ble_eq_true rfl⟩ ⟨rfl, rfl⟩ ⟨Nat.zero_le _, Nat.zero_le _⟩ rfl (Nat.le_of_ble_eq_true rfl) [1, 5] [0, 2, 3, 4] rfl rfl (by decide) (by decide) (by decide) rfl rfl [0, 4, 1, 2, 3, 5] (by decide) (wB K h t1 t2 t3 t4 c (tNewC C 3 6)) rfl ?_
  refine gx_istore_n (pc := 7) hB dX0_addPurpose_7 (by decide) [(1, .int (tNew C 3 6)), (0, .ref h)] rfl ?_
  refine gx_iload_n (pc := 8) hB dX0_addPurpose_8 0 rfl ?_
  refine gx_iconst (pc := 9) hB dX0_addPurpose_9 (-1) (by decide) ?_
  refine gx_icmp_ne (pc := 10) hB 16 dX0_addPurpose_10 (by decide) (fun c_1 => ?_) (fun c_1 => ?_)
  · refine gx_aload_n (pc := 16) hB dX0_addPurpose_16 1 rfl ?_
    refine gx_get (pc := 17) hB dX0_addPurpose_17 inX0 rfl 0 rfl 1 (by decide) tb_127 rfl rfl ?_
    refine gx_iload_n (pc := 20) hB dX0_addPurpose_20 0 rfl ?_
    refine gx_bipush (pc := 21) hB dX0_addPurpose_21 9 (by decide) ?_
    refine gx_iconst (pc := 23) hB dX0_addPurpose_23 (-1) (by decide) ?_
    refine gx_dVv (pc := 24) (wr := [(h, .inr (0, [.ref c, .ref t1, .ref t2, .ref t3, .ref t4])), (t2, .inr (3, [.ref c, .int (nI 76), .int (nI 8), .int (nI 7)])), (t3, .inr (3, [.ref c, .int (nI 133), .int (nI 24), .int (nI 7)])), (t4, .inr (3, [.ref c, .int (nI 302), .int (nI 6), .int (nI 8)]))]) hB (c_X3_put l K t1 c 3 6 12 (tNewC C 3 6) (tNew C 3 6) 9 (-1) (by first | decide | (unfold tHb; decide))) mX3_put dX0_addPurpose_24 tb_122 pX3_put ⟨Nat.le_of_ble_eq_true rfl, Nat.le_of_ble_eq_true rfl⟩ ⟨rfl, rfl⟩ ⟨Nat.zero_le _, Nat.zero_le _⟩ rfl (Nat.le_of_ble_eq_true rfl) [1, 5] [0, 2, 3, 4] rfl rfl (by decide) (by decide) (by decide) rfl rfl [0, 4, 1, 2, 3, 5] (by decide) (wB K h t1 t2 t3 t4 c (pPut (tNewC C 3 6) (tNew C 3 6) 9 (-1))) rfl ?_
    refine gx_aload_n (pc := 27) hB dX0_addPurpose_27 1 rfl ?_
    refine gx_get (pc := 28) hB dX0_addPurpose_28 inX0 rfl 0 rfl 1 (by decide) tb_127 rfl rfl ?_
    refine gx_iload_n (pc := 31) hB dX0_addPurpose_31 0 rfl ?_
    refine gx_bipush (pc := 32) hB dX0_addPurpose_32 10 (by decide) ?_
    refine gx_iload_n (pc := 34) hB dX0_addPurpose_34 0 rfl ?_
    refine gx_dVv (pc := 35) (wr := [(h, .inr (0, [.ref c, .ref t1, .ref t2, .ref t3, .ref t4])), (t2, .inr (3, [.ref c, .int (nI 76), .int (nI 8), .int (nI 7)])), (t3, .inr (3, [.ref c, .int (nI 133), .int (nI 24), .int (nI 7)])), (t4, .inr (3, [.ref c, .int (nI 302), .int (nI 6), .int (nI 8)]))]) hB (c_X3_put l K t1 c 3 6 12 (pPut (tNewC C 3 6) (tNew C 3 6) 9 (-1)) (tNew C 3 6) 10 (tNew C 3 6) (by first | decide | (unfold tHb; decide))) mX3_put dX0_addPurpose_35 tb_122 pX3_put ⟨Nat.le_of_ble_eq_true rfl, Nat.le_of_ble_eq_true rfl⟩ ⟨rfl, rfl⟩ ⟨Nat.zero_le _, Nat.zero_le _⟩ rfl (Nat.le_of_ble_eq_true rfl) [1, 5] [0, 2, 3, 4] rfl rfl (by decide) (by decide) (by decide) rfl rfl [0, 4, 1, 2, 3, 5] (by decide) (wB K h t1 t2 t3 t4 c (pPut (pPut (tNewC C 3 6) (tNew C 3 6) 9 (-1)) (tNew C 3 6) 10 (tNew C 3 6))) rfl ?_
    refine gx_iload_n (pc := 38) hB dX0_addPurpose_38 0 rfl ?_
    have e1 : (bAddPurpose C).1 = tNew C 3 6 := by simp [bAddPurpose, eq_false c_1]
    have f0 : (bAddPurpose C).2 = pPut (pPut (tNewC C 3 6) (tNew C 3 6) 9 (-1)) (tNew C 3 6) 10 (tNew C 3 6) := by simp [bAddPurpose, eq_false c_1]
    exact gx_iret (pc := 39) hC dX0_addPurpose_39 (Nat.zero_le _) (Nat.zero_le _) (⟨by rw [e1], by rw [f0]⟩)
  · refine gx_bipush (pc := 13) hB dX0_addPurpose_13 (-3) (by decide) ?_
    have e1 : (bAddPurpose C).1 = (-3) := by simp [bAddPurpose, c_1]
    have f0 : (bAddPurpose C).2 = tNewC C 3 6 := by simp [bAddPurpose, c_1]
    exact gx_iret (pc := 15) hC dX0_addPurpose_15 (Nat.zero_le _) (Nat.zero_le _) (⟨by rw [e1], by rw [f0]⟩)
theorem pX0_addDonor : (parseMethodDescriptor yX0_addDonor.desc).map (fun d => d.parameters.length) = some 0 := by decide +kernel
theorem mX0_addDonor : gx_M yX0_addDonor cX0_addDonor 3 (some .int) := ⟨tb_227, tb_228, tb_69, tb_229, by decide, by decide⟩
set_option maxHeartbeats 4000000 in
set_option maxRecDepth 100000 in
theorem c_X0_addDonor (l : Launch) (K : gx_K) (h t1 t2 t3 t4 c : Nat) (C : Nat → Int32)   : gx_Ctr l K yX0_addDonor cX0_addDonor 3 (some .int) (rmm 2 23) [.ref h] (wB K h t1 t2 t3 t4 c C) (gx_D (some (.int ((bAddDonor C).1))) (wB K h t1 t2 t3 t4 c ((bAddDonor C).2))) := by
  refine gx_of (by decide) (Nat.le_of_ble_eq_true rfl) (fun G hC => ?_)
  have hB := hC.b
  refine gx_lv (lv' := [(0, .ref h)]) rfl ?_
  refine gx_aload_n (pc := 0) hB dX0_addDonor_0 0 rfl ?_
  refine gx_get (pc := 1) hB dX0_addDonor_1 inX0 rfl 0 rfl 2 (by decide) tb_128 rfl rfl ?_
  refine gx_dVi (pc := 4) (r := tNew C 76 8) (wr := [(h, .inr (0, [.ref c, .ref t1, .ref t2, .ref t3, .ref t4])), (t1, .inr (3, [.ref c, .int (nI 3), .int (nI 6), .int (nI 12)])), (t3, .inr (3, [.ref c, .int (nI 133), .int (nI 24), .int (nI 7)])), (t4, .inr (3, [.ref c, .int (nI 302), .int (nI 6), .int (nI 8)]))]) hB (c_X3_addRow l K t2 c 76 8 7 C (by first | decide | (unfold tHb; decide))) mX3_addRow dX0_addDonor_4 tb_118 pX3_addRow ⟨Nat.le_of_ble_eq_true rfl, Nat.le_of_ble_eq_true rfl⟩ ⟨rfl, rfl⟩ ⟨Nat.zero_le _, Nat.zero_le _⟩ rfl (Nat.le_of_ble_eq_true rfl) [2, 5] [0, 1, 3, 4] rfl rfl (by decide) (by decide) (by decide) rfl rfl [0, 1, 4, 2, 3, 5] (by decide) (wB K h t1 t2 t3 t4 c (tNewC C 76 8)) rfl ?_
  refine gx_istore_n (pc := 7) hB dX0_addDonor_7 (by decide) [(1, .int (tNew C 76 8)), (0, .ref h)] rfl ?_
  refine gx_iload_n (pc := 8) hB dX0_addDonor_8 0 rfl ?_
  refine gx_iconst (pc := 9) hB dX0_addDonor_9 (-1) (by decide) ?_
  refine gx_icmp_ne (pc := 10) hB 16 dX0_addDonor_10 (by decide) (fun c_1 => ?_) (fun c_1 => ?_)
  · refine gx_iconst (pc := 16) hB dX0_addDonor_16 0 (by decide) ?_
    refine gx_istore_n (pc := 17) hB dX0_addDonor_17 (by decide) [(2, .int 0), (1, .int (tNew C 76 8)), (0, .ref h)] rfl ?_
    have loop_18 : ∀ d i : Nat, i + d = 6 → G 0 0 (wB K h t1 t2 t3 t4 c (bDonorN (tNewC C 76 8) (tNew C 76 8) i)) [(0, .ref h), (1, .int (tNew C 76 8)), (2, .int (nI i))] 18 [] := by
      intro d
      induction d with
      | zero =>
        intro i hi18
        have hN18 : 6 = i := by omega
        refine gx_iload_n (pc := 18) hB dX0_addDonor_18 2 rfl ?_
        refine gx_bipush (pc := 19) hB dX0_addDonor_19 6 (by decide) ?_
        refine gx_icmp_ge (pc := 21) hB 42 dX0_addDonor_21 (by decide) (fun c_2 => ?_) (fun c_2 => ?_)
        · refine gx_iload_n (pc := 42) hB dX0_addDonor_42 1 rfl ?_
          have e1 : (bAddDonor C).1 = tNew C 76 8 := by simp [bAddDonor, eq_false c_1, hN18, c_2, eq_false (Int32.not_lt.mpr c_2)]
          have f0 : (bAddDonor C).2 = bDonorN (tNewC C 76 8) (tNew C 76 8) i := by simp [bAddDonor, eq_false c_1, hN18, c_2, eq_false (Int32.not_lt.mpr c_2)]
          exact gx_iret (pc := 43) hC dX0_addDonor_43 (Nat.zero_le _) (Nat.zero_le _) (⟨by rw [e1], by rw [f0]⟩)
        · exact absurd (lpT (x := 6) hi18) c_2
      | succ d ih18 =>
        intro i hi18
        refine gx_iload_n (pc := 18) hB dX0_addDonor_18 2 rfl ?_
        refine gx_bipush (pc := 19) hB dX0_addDonor_19 6 (by decide) ?_
        refine gx_icmp_ge (pc := 21) hB 42 dX0_addDonor_21 (by decide) (fun c_3 => ?_) (fun c_3 => ?_)
        · exact absurd c_3 (lpF (x := 6) hi18)
        · refine gx_aload_n (pc := 24) hB dX0_addDonor_24 0 rfl ?_
          refine gx_get (pc := 25) hB dX0_addDonor_25 inX0 rfl 0 rfl 2 (by decide) tb_128 rfl rfl ?_
          refine gx_iload_n (pc := 28) hB dX0_addDonor_28 1 rfl ?_
          refine gx_iconst (pc := 29) hB dX0_addDonor_29 1 (by decide) ?_
          refine gx_iload_n (pc := 30) hB dX0_addDonor_30 2 rfl ?_
          refine gx_iadd (pc := 31) hB dX0_addDonor_31 ?_
          refine gx_top (show 1 + nI i = nI (1 + i) from nI_add 1 i) ?_
          refine gx_iconst (pc := 32) hB dX0_addDonor_32 (-1) (by decide) ?_
          refine gx_dVv (pc := 33) (wr := [(h, .inr (0, [.ref c, .ref t1, .ref t2, .ref t3, .ref t4])), (t1, .inr (3, [.ref c, .int (nI 3), .int (nI 6), .int (nI 12)])), (t3, .inr (3, [.ref c, .int (nI 133), .int (nI 24), .int (nI 7)])), (t4, .inr (3, [.ref c, .int (nI 302), .int (nI 6), .int (nI 8)]))]) hB (c_X3_put l K t2 c 76 8 7 (bDonorN (tNewC C 76 8) (tNew C 76 8) i) (tNew C 76 8) (nI (1 + i)) (-1) (by first | decide | (unfold tHb; decide))) mX3_put dX0_addDonor_33 tb_122 pX3_put ⟨Nat.le_of_ble_eq_true rfl, Nat.le_of_ble_eq_true rfl⟩ ⟨rfl, rfl⟩ ⟨Nat.zero_le _, Nat.zero_le _⟩ rfl (Nat.le_of_ble_eq_true rfl) [2, 5] [0, 1, 3, 4] rfl rfl (by decide) (by decide) (by decide) rfl rfl [0, 1, 4, 2, 3, 5] (by decide) (wB K h t1 t2 t3 t4 c (dPut (bDonorN (tNewC C 76 8) (tNew C 76 8) i) (tNew C 76 8) (nI (1 + i)) (-1))) rfl ?_
          refine gx_iinc (pc := 36) hB dX0_addDonor_36 2 (by decide) rfl (nI (i + 1)) (nI_1 _) [(2, .int (nI (i + 1))), (0, .ref h), (1, .int (tNew C 76 8))] rfl ?_
          refine gx_goto (pc := 39) hB 18 dX0_addDonor_39 (by decide) ?_
          have w0 : dPut (bDonorN (tNewC C 76 8) (tNew C 76 8) i) (tNew C 76 8) (nI (1 + i)) (-1) = bDonorN (tNewC C 76 8) (tNew C 76 8) (i + 1) := by simp [bAddDonor, bDonorN, eq_false c_1, Int32.not_le.mp c_3, eq_false c_3]
          rw [w0]
          refine gx_sub hB (lv' := [(0, .ref h), (1, .int (tNew C 76 8)), (2, .int (nI (i + 1)))]) [1, 2, 0] rfl ?_
          exact ih18 (i + 1) (by omega)
    refine gx_sub hB (lv' := [(0, .ref h), (1, .int (tNew C 76 8)), (2, .int (nI 0))]) [2, 1, 0] rfl ?_
    exact loop_18 (6) 0 (by omega)
  · refine gx_bipush (pc := 13) hB dX0_addDonor_13 (-3) (by decide) ?_
    have e1 : (bAddDonor C).1 = (-3) := by simp [bAddDonor, bDonorN, c_1]
    have f0 : (bAddDonor C).2 = tNewC C 76 8 := by simp [bAddDonor, bDonorN, c_1]
    exact gx_iret (pc := 15) hC dX0_addDonor_15 (Nat.zero_le _) (Nat.zero_le _) (⟨by rw [e1], by rw [f0]⟩)
theorem pX0_letDeclare : (parseMethodDescriptor yX0_letDeclare.desc).map (fun d => d.parameters.length) = some 2 := by decide +kernel
theorem mX0_letDeclare : gx_M yX0_letDeclare cX0_letDeclare 4 (some .int) := ⟨tb_235, tb_236, tb_69, tb_237, by decide, by decide⟩
set_option maxHeartbeats 4000000 in
set_option maxRecDepth 100000 in
theorem c_X0_letDeclare (l : Launch) (K : gx_K) (h t1 t2 t3 t4 c : Nat) (C : Nat → Int32) (x y : Int32)  : gx_Ctr l K yX0_letDeclare cX0_letDeclare 4 (some .int) (rmm 2 23) [.ref h, .int x, .int y] (wB K h t1 t2 t3 t4 c C) (gx_D (some (.int ((bDeclare C x y).1))) (wB K h t1 t2 t3 t4 c ((bDeclare C x y).2))) := by
  refine gx_of (by decide) (Nat.le_of_ble_eq_true rfl) (fun G hC => ?_)
  have hB := hC.b
  refine gx_lv (lv' := [(0, .ref h), (1, .int x), (2, .int y)]) rfl ?_
  refine gx_aload_n (pc := 0) hB dX0_letDeclare_0 0 rfl ?_
  refine gx_get (pc := 1) hB dX0_letDeclare_1 inX0 rfl 0 rfl 2 (by decide) tb_128 rfl rfl ?_
  refine gx_iload_n (pc := 4) hB dX0_letDeclare_4 1 rfl ?_
  refine gx_dVi (pc := 5) (r := bI (tHas C 76 x)) (wr := [(h, .inr (0, [.ref c, .ref t1, .ref t2, .ref t3, .ref t4])), (t1, .inr (3, [.ref c, .int (nI 3), .int (nI 6), .int (nI 12)])), (t3, .inr (3, [.ref c, .int (nI 133), .int (nI 24), .int (nI 7)])), (t4, .inr (3, [.ref c, .int (nI 302), .int (nI 6), .int (nI 8)]))]) hB (c_X3_has l K t2 c 76 8 7 C x (by first | decide | (unfold tHb; decide))) mX3_has dX0_letDeclare_5 tb_238 pX3_has ⟨Nat.le_of_ble_eq_true rfl, Nat.le_of_ble_eq_true rfl⟩ ⟨rfl, rfl⟩ ⟨Nat.zero_le _, Nat.zero_le _⟩ rfl (Nat.le_of_ble_eq_true rfl) [2, 5] [0, 1, 3, 4] rfl rfl (by decide) (by decide) (by decide) rfl rfl [0, 1, 4, 2, 3, 5] (by decide) (wB K h t1 t2 t3 t4 c C) rfl ?_
  refine gx_if_eq_b (pc := 8) hB 20 dX0_letDeclare_8 (by decide) (fun c_1 => ?_) (fun c_1 => ?_)
  · refine gx_iconst (pc := 20) hB dX0_letDeclare_20 (-1) (by decide) ?_
    have e1 : (bDeclare C x y).1 = (-1) := by simp [bDeclare, c_1]
    have f0 : (bDeclare C x y).2 = C := by simp [bDeclare, c_1]
    exact gx_iret (pc := 21) hC dX0_letDeclare_21 (Nat.zero_le _) (Nat.zero_le _) (⟨by rw [e1], by rw [f0]⟩)
  · refine gx_iload_n (pc := 11) hB dX0_letDeclare_11 2 rfl ?_
    refine gx_iconst (pc := 12) hB dX0_letDeclare_12 0 (by decide) ?_
    refine gx_iconst (pc := 13) hB dX0_letDeclare_13 1 (by decide) ?_
    refine gx_w0 (pc := 14) (r := bI (bIn y 0 1)) hB (c_X4_within l K y 0 1 ) mX4_within dX0_letDeclare_14 ⟨Nat.le_of_ble_eq_true rfl, Nat.le_of_ble_eq_true rfl⟩ ⟨rfl, rfl⟩ ⟨Nat.zero_le _, Nat.zero_le _⟩ (Nat.le_of_ble_eq_true rfl) [0, 1, 2, 3, 4, 5] rfl (by decide) ?_
    refine gx_if_ne_b (pc := 17) hB 22 dX0_letDeclare_17 (by decide) (fun c_2 => ?_) (fun c_2 => ?_)
    · refine gx_aload_n (pc := 22) hB dX0_letDeclare_22 0 rfl ?_
      refine gx_get (pc := 23) hB dX0_letDeclare_23 inX0 rfl 0 rfl 2 (by decide) tb_128 rfl rfl ?_
      refine gx_iload_n (pc := 26) hB dX0_letDeclare_26 1 rfl ?_
      refine gx_iconst (pc := 27) hB dX0_letDeclare_27 0 (by decide) ?_
      refine gx_dVi (pc := 28) (r := dAt C x 0) (wr := [(h, .inr (0, [.ref c, .ref t1, .ref t2, .ref t3, .ref t4])), (t1, .inr (3, [.ref c, .int (nI 3), .int (nI 6), .int (nI 12)])), (t3, .inr (3, [.ref c, .int (nI 133), .int (nI 24), .int (nI 7)])), (t4, .inr (3, [.ref c, .int (nI 302), .int (nI 6), .int (nI 8)]))]) hB (c_X3_at l K t2 c 76 8 7 C x 0 (by first | decide | (unfold tHb; decide))) mX3_at dX0_letDeclare_28 tb_245 pX3_at ⟨Nat.le_of_ble_eq_true rfl, Nat.le_of_ble_eq_true rfl⟩ ⟨rfl, rfl⟩ ⟨Nat.zero_le _, Nat.zero_le _⟩ rfl (Nat.le_of_ble_eq_true rfl) [2, 5] [0, 1, 3, 4] rfl rfl (by decide) (by decide) (by decide) rfl rfl [0, 1, 4, 2, 3, 5] (by decide) (wB K h t1 t2 t3 t4 c C) rfl ?_
      refine gx_istore_n (pc := 31) hB dX0_letDeclare_31 (by decide) [(3, .int (dAt C x 0)), (0, .ref h), (1, .int x), (2, .int y)] rfl ?_
      refine gx_aload_n (pc := 32) hB dX0_letDeclare_32 1 rfl ?_
      refine gx_get (pc := 33) hB dX0_letDeclare_33 inX0 rfl 0 rfl 2 (by decide) tb_128 rfl rfl ?_
      refine gx_iload_n (pc := 36) hB dX0_letDeclare_36 2 rfl ?_
      refine gx_iconst (pc := 37) hB dX0_letDeclare_37 0 (by decide) ?_
      refine gx_iload_n (pc := 38) hB dX0_letDeclare_38 3 rfl ?_
      refine gx_dVv (pc := 39) (wr := [(h, .inr (0, [.ref c, .ref t1, .ref t2, .ref t3, .ref t4])), (t1, .inr (3, [.ref c, .int (nI 3), .int (nI 6), .int (nI 12)])), (t3, .inr (3, [.ref c, .int (nI 133), .int (nI 24), .int (nI 7)])), (t4, .inr (3, [.ref c, .int (nI 302), .int (nI 6), .int (nI 8)]))]) hB (c_X3_put l K t2 c 76 8 7 C x 0 y (by first | decide | (unfold tHb; decide))) mX3_put dX0_letDeclare_39 tb_122 pX3_put ⟨Nat.le_of_ble_eq_true rfl, Nat.le_of_ble_eq_true rfl⟩ ⟨rfl, rfl⟩ ⟨Nat.zero_le _, Nat.zero_le _⟩ rfl (Nat.le_of_ble_eq_true rfl) [2, 5] [0, 1, 3, 4] rfl rfl (by decide) (by decide) (by decide) rfl rfl [0, 1, 4, 2, 3, 5] (by decide) (wB K h t1 t2 t3 t4 c (dPut C x 0 y)) rfl ?_
      refine gx_iload_n (pc := 42) hB dX0_letDeclare_42 0 rfl ?_
      have e1 : (bDeclare C x y).1 = dAt C x 0 := by simp [bDeclare, c_1, c_2]
      have f0 : (bDeclare C x y).2 = dPut C x 0 y := by simp [bDeclare, c_1, c_2]
      exact gx_iret (pc := 43) hC dX0_letDeclare_43 (Nat.zero_le _) (Nat.zero_le _) (⟨by rw [e1], by rw [f0]⟩)
    · refine gx_iconst (pc := 20) hB dX0_letDeclare_20 (-1) (by decide) ?_
      have e1 : (bDeclare C x y).1 = (-1) := by simp [bDeclare, c_1, c_2]
      have f0 : (bDeclare C x y).2 = C := by simp [bDeclare, c_1, c_2]
      exact gx_iret (pc := 21) hC dX0_letDeclare_21 (Nat.zero_le _) (Nat.zero_le _) (⟨by rw [e1], by rw [f0]⟩)
theorem pX0_hasPurpose : (parseMethodDescriptor yX0_hasPurpose.desc).map (fun d => d.parameters.length) = some 1 := by decide +kernel
theorem mX0_hasPurpose : gx_M yX0_hasPurpose cX0_hasPurpose 2 (some .boolean) := ⟨tb_547, tb_548, tb_69, tb_549, by decide, by decide⟩
set_option maxHeartbeats 4000000 in
set_option maxRecDepth 100000 in
theorem c_X0_hasPurpose (l : Launch) (K : gx_K) (h t1 t2 t3 t4 c : Nat) (C : Nat → Int32) (x : Int32)  : gx_Ctr l K yX0_hasPurpose cX0_hasPurpose 2 (some .boolean) (rmm 2 21) [.ref h, .int x] (wB K h t1 t2 t3 t4 c C) (gx_D (some (.int (bI (tHas C 3 x)))) (wB K h t1 t2 t3 t4 c C)) := by
  refine gx_of (by decide) (Nat.le_of_ble_eq_true rfl) (fun G hC => ?_)
  have hB := hC.b
  refine gx_lv (lv' := [(0, .ref h), (1, .int x)]) rfl ?_
  refine gx_aload_n (pc := 0) hB dX0_hasPurpose_0 0 rfl ?_
  refine gx_get (pc := 1) hB dX0_hasPurpose_1 inX0 rfl 0 rfl 1 (by decide) tb_127 rfl rfl ?_
  refine gx_iload_n (pc := 4) hB dX0_hasPurpose_4 1 rfl ?_
  refine gx_dVi (pc := 5) (r := bI (tHas C 3 x)) (wr := [(h, .inr (0, [.ref c, .ref t1, .ref t2, .ref t3, .ref t4])), (t2, .inr (3, [.ref c, .int (nI 76), .int (nI 8), .int (nI 7)])), (t3, .inr (3, [.ref c, .int (nI 133), .int (nI 24), .int (nI 7)])), (t4, .inr (3, [.ref c, .int (nI 302), .int (nI 6), .int (nI 8)]))]) hB (c_X3_has l K t1 c 3 6 12 C x (by first | decide | (unfold tHb; decide))) mX3_has dX0_hasPurpose_5 tb_238 pX3_has ⟨Nat.le_of_ble_eq_true rfl, Nat.le_of_ble_eq_true rfl⟩ ⟨rfl, rfl⟩ ⟨Nat.zero_le _, Nat.zero_le _⟩ rfl (Nat.le_of_ble_eq_true rfl) [1, 5] [0, 2, 3, 4] rfl rfl (by decide) (by decide) (by decide) rfl rfl [0, 4, 1, 2, 3, 5] (by decide) (wB K h t1 t2 t3 t4 c C) rfl ?_
  exact gx_zret (pc := 8) hC dX0_hasPurpose_8 (Nat.zero_le _) (Nat.zero_le _) (bI_01 _) (⟨rfl, rfl⟩)
theorem pX0_hasDonor : (parseMethodDescriptor yX0_hasDonor.desc).map (fun d => d.parameters.length) = some 1 := by decide +kernel
theorem mX0_hasDonor : gx_M yX0_hasDonor cX0_hasDonor 2 (some .boolean) := ⟨tb_526, tb_527, tb_69, tb_528, by decide, by decide⟩
set_option maxHeartbeats 4000000 in
set_option maxRecDepth 100000 in
theorem c_X0_hasDonor (l : Launch) (K : gx_K) (h t1 t2 t3 t4 c : Nat) (C : Nat → Int32) (x : Int32)  : gx_Ctr l K yX0_hasDonor cX0_hasDonor 2 (some .boolean) (rmm 2 21) [.ref h, .int x] (wB K h t1 t2 t3 t4 c C) (gx_D (some (.int (bI (tHas C 76 x)))) (wB K h t1 t2 t3 t4 c C)) := by
  refine gx_of (by decide) (Nat.le_of_ble_eq_true rfl) (fun G hC => ?_)
  have hB := hC.b
  refine gx_lv (lv' := [(0, .ref h), (1, .int x)]) rfl ?_
  refine gx_aload_n (pc := 0) hB dX0_hasDonor_0 0 rfl ?_
  refine gx_get (pc := 1) hB dX0_hasDonor_1 inX0 rfl 0 rfl 2 (by decide) tb_128 rfl rfl ?_
  refine gx_iload_n (pc := 4) hB dX0_hasDonor_4 1 rfl ?_
  refine gx_dVi (pc := 5) (r := bI (tHas C 76 x)) (wr := [(h, .inr (0, [.ref c, .ref t1, .ref t2, .ref t3, .ref t4])), (t1, .inr (3, [.ref c, .int (nI 3), .int (nI 6), .int (nI 12)])), (t3, .inr (3, [.ref c, .int (nI 133), .int (nI 24), .int (nI 7)])), (t4, .inr (3, [.ref c, .int (nI 302), .int (nI 6), .int (nI 8)]))]) hB (c_X3_has l K t2 c 76 8 7 C x (by first | decide | (unfold tHb; decide))) mX3_has dX0_hasDonor_5 tb_238 pX3_has ⟨Nat.le_of_ble_eq_true rfl, Nat.le_of_ble_eq_true rfl⟩ ⟨rfl, rfl⟩ ⟨Nat.zero_le _, Nat.zero_le _⟩ rfl (Nat.le_of_ble_eq_true rfl) [2, 5] [0, 1, 3, 4] rfl rfl (by decide) (by decide) (by decide) rfl rfl [0, 1, 4, 2, 3, 5] (by decide) (wB K h t1 t2 t3 t4 c C) rfl ?_
  exact gx_zret (pc := 8) hC dX0_hasDonor_8 (Nat.zero_le _) (Nat.zero_le _) (bI_01 _) (⟨rfl, rfl⟩)
theorem pX0_isClosed : (parseMethodDescriptor yX0_isClosed.desc).map (fun d => d.parameters.length) = some 1 := by decide +kernel
theorem mX0_isClosed : gx_M yX0_isClosed cX0_isClosed 2 (some .boolean) := ⟨tb_258, tb_259, tb_69, tb_260, by decide, by decide⟩
set_option maxHeartbeats 4000000 in
set_option maxRecDepth 100000 in
theorem c_X0_isClosed (l : Launch) (K : gx_K) (h t1 t2 t3 t4 c : Nat) (C : Nat → Int32) (x : Int32)  : gx_Ctr l K yX0_isClosed cX0_isClosed 2 (some .boolean) (rmm 2 22) [.ref h, .int x] (wB K h t1 t2 t3 t4 c C) (gx_D (some (.int (bI (bClosed C x)))) (wB K h t1 t2 t3 t4 c C)) := by
  refine gx_of (by decide) (Nat.le_of_ble_eq_true rfl) (fun G hC => ?_)
  have hB := hC.b
  refine gx_lv (lv' := [(0, .ref h), (1, .int x)]) rfl ?_
  refine gx_aload_n (pc := 0) hB dX0_isClosed_0 0 rfl ?_
  refine gx_get (pc := 1) hB dX0_isClosed_1 inX0 rfl 0 rfl 1 (by decide) tb_127 rfl rfl ?_
  refine gx_iload_n (pc := 4) hB dX0_isClosed_4 1 rfl ?_
  refine gx_bipush (pc := 5) hB dX0_isClosed_5 9 (by decide) ?_
  refine gx_dVi (pc := 7) (r := pAt C x 9) (wr := [(h, .inr (0, [.ref c, .ref t1, .ref t2, .ref t3, .ref t4])), (t2, .inr (3, [.ref c, .int (nI 76), .int (nI 8), .int (nI 7)])), (t3, .inr (3, [.ref c, .int (nI 133), .int (nI 24), .int (nI 7)])), (t4, .inr (3, [.ref c, .int (nI 302), .int (nI 6), .int (nI 8)]))]) hB (c_X3_at l K t1 c 3 6 12 C x 9 (by first | decide | (unfold tHb; decide))) mX3_at dX0_isClosed_7 tb_245 pX3_at ⟨Nat.le_of_ble_eq_true rfl, Nat.le_of_ble_eq_true rfl⟩ ⟨rfl, rfl⟩ ⟨Nat.zero_le _, Nat.zero_le _⟩ rfl (Nat.le_of_ble_eq_true rfl) [1, 5] [0, 2, 3, 4] rfl rfl (by decide) (by decide) (by decide) rfl rfl [0, 4, 1, 2, 3, 5] (by decide) (wB K h t1 t2 t3 t4 c C) rfl ?_
  refine gx_iconst (pc := 10) hB dX0_isClosed_10 (-1) (by decide) ?_
  refine gx_icmp_eq (pc := 11) hB 18 dX0_isClosed_11 (by decide) (fun c_1 => ?_) (fun c_1 => ?_)
  · refine gx_iconst (pc := 18) hB dX0_isClosed_18 0 (by decide) ?_
    have e1 : bI (bClosed C x) = 0 := by simp [bClosed, bI, c_1]
    exact gx_zret (pc := 19) hC dX0_isClosed_19 (Nat.zero_le _) (Nat.zero_le _) (by decide) (⟨by rw [e1], rfl⟩)
  · refine gx_iconst (pc := 14) hB dX0_isClosed_14 1 (by decide) ?_
    refine gx_goto (pc := 15) hB 19 dX0_isClosed_15 (by decide) ?_
    have e1 : bI (bClosed C x) = 1 := by simp [bClosed, bI, eq_false c_1]
    exact gx_zret (pc := 19) hC dX0_isClosed_19 (Nat.zero_le _) (Nat.zero_le _) (by decide) (⟨by rw [e1], rfl⟩)
theorem pX0_fundOf : (parseMethodDescriptor yX0_fundOf.desc).map (fun d => d.parameters.length) = some 1 := by decide +kernel
theorem mX0_fundOf : gx_M yX0_fundOf cX0_fundOf 2 (some .int) := ⟨tb_357, tb_358, tb_69, tb_359, by decide, by decide⟩
set_option maxHeartbeats 4000000 in
set_option maxRecDepth 100000 in
theorem c_X0_fundOf (l : Launch) (K : gx_K) (h t1 t2 t3 t4 c : Nat) (C : Nat → Int32) (x : Int32)  : gx_Ctr l K yX0_fundOf cX0_fundOf 2 (some .int) (rmm 2 22) [.ref h, .int x] (wB K h t1 t2 t3 t4 c C) (gx_D (some (.int (bFund C x))) (wB K h t1 t2 t3 t4 c C)) := by
  refine gx_of (by decide) (Nat.le_of_ble_eq_true rfl) (fun G hC => ?_)
  have hB := hC.b
  refine gx_lv (lv' := [(0, .ref h), (1, .int x)]) rfl ?_
  refine gx_aload_n (pc := 0) hB dX0_fundOf_0 0 rfl ?_
  refine gx_get (pc := 1) hB dX0_fundOf_1 inX0 rfl 0 rfl 1 (by decide) tb_127 rfl rfl ?_
  refine gx_iload_n (pc := 4) hB dX0_fundOf_4 1 rfl ?_
  refine gx_iconst (pc := 5) hB dX0_fundOf_5 0 (by decide) ?_
  refine gx_dVi (pc := 6) (r := pAt C x 0) (wr := [(h, .inr (0, [.ref c, .ref t1, .ref t2, .ref t3, .ref t4])), (t2, .inr (3, [.ref c, .int (nI 76), .int (nI 8), .int (nI 7)])), (t3, .inr (3, [.ref c, .int (nI 133), .int (nI 24), .int (nI 7)])), (t4, .inr (3, [.ref c, .int (nI 302), .int (nI 6), .int (nI 8)]))]) hB (c_X3_at l K t1 c 3 6 12 C x 0 (by first | decide | (unfold tHb; decide))) mX3_at dX0_fundOf_6 tb_245 pX3_at ⟨Nat.le_of_ble_eq_true rfl, Nat.le_of_ble_eq_true rfl⟩ ⟨rfl, rfl⟩ ⟨Nat.zero_le _, Nat.zero_le _⟩ rfl (Nat.le_of_ble_eq_true rfl) [1, 5] [0, 2, 3, 4] rfl rfl (by decide) (by decide) (by decide) rfl rfl [0, 4, 1, 2, 3, 5] (by decide) (wB K h t1 t2 t3 t4 c C) rfl ?_
  have e1 : bFund C x = pAt C x 0 := by simp [bFund]
  exact gx_iret (pc := 9) hC dX0_fundOf_9 (Nat.zero_le _) (Nat.zero_le _) (⟨by rw [e1], rfl⟩)
theorem pX0_bookGift : (parseMethodDescriptor yX0_bookGift.desc).map (fun d => d.parameters.length) = some 4 := by decide +kernel
theorem mX0_bookGift : gx_M yX0_bookGift cX0_bookGift 6 (some .int) := ⟨tb_267, tb_0, tb_69, tb_268, by decide, by decide⟩
set_option maxHeartbeats 4000000 in
set_option maxRecDepth 100000 in
theorem c_X0_bookGift (l : Launch) (K : gx_K) (h t1 t2 t3 t4 c : Nat) (C : Nat → Int32) (x y z u : Int32)  : gx_Ctr l K yX0_bookGift cX0_bookGift 6 (some .int) (rmm 2 23) [.ref h, .int x, .int y, .int z, .int u] (wB K h t1 t2 t3 t4 c C) (gx_D (some (.int ((bBook C x y z u).1))) (wB K h t1 t2 t3 t4 c ((bBook C x y z u).2))) := by
  refine gx_of (by decide) (Nat.le_of_ble_eq_true rfl) (fun G hC => ?_)
  have hB := hC.b
  refine gx_lv (lv' := [(0, .ref h), (1, .int x), (2, .int y), (3, .int z), (4, .int u)]) rfl ?_
  refine gx_aload_n (pc := 0) hB dX0_bookGift_0 0 rfl ?_
  refine gx_get (pc := 1) hB dX0_bookGift_1 inX0 rfl 0 rfl 3 (by decide) tb_129 rfl rfl ?_
  refine gx_dVi (pc := 4) (r := tNew C 133 24) (wr := [(h, .inr (0, [.ref c, .ref t1, .ref t2, .ref t3, .ref t4])), (t1, .inr (3, [.ref c, .int (nI 3), .int (nI 6), .int (nI 12)])), (t2, .inr (3, [.ref c, .int (nI 76), .int (nI 8), .int (nI 7)])), (t4, .inr (3, [.ref c, .int (nI 302), .int (nI 6), .int (nI 8)]))]) hB (c_X3_addRow l K t3 c 133 24 7 C (by first | decide | (unfold tHb; decide))) mX3_addRow dX0_bookGift_4 tb_118 pX3_addRow ⟨Nat.le_of_ble_eq_true rfl, Nat.le_of_ble_eq_true rfl⟩ ⟨rfl, rfl⟩ ⟨Nat.zero_le _, Nat.zero_le _⟩ rfl (Nat.le_of_ble_eq_true rfl) [3, 5] [0, 1, 2, 4] rfl rfl (by decide) (by decide) (by decide) rfl rfl [0, 1, 2, 4, 3, 5] (by decide) (wB K h t1 t2 t3 t4 c (tNewC C 133 24)) rfl ?_
  refine gx_istore (pc := 7) hB dX0_bookGift_7 (by decide) [(5, .int (tNew C 133 24)), (0, .ref h), (1, .int x), (2, .int y), (3, .int z), (4, .int u)] rfl ?_
  refine gx_aload_n (pc := 9) hB dX0_bookGift_9 1 rfl ?_
  refine gx_get (pc := 10) hB dX0_bookGift_10 inX0 rfl 0 rfl 3 (by decide) tb_129 rfl rfl ?_
  refine gx_iload (pc := 13) hB dX0_bookGift_13 0 rfl ?_
  refine gx_iconst (pc := 15) hB dX0_bookGift_15 0 (by decide) ?_
  refine gx_iload_n (pc := 16) hB dX0_bookGift_16 2 rfl ?_
  refine gx_dVv (pc := 17) (wr := [(h, .inr (0, [.ref c, .ref t1, .ref t2, .ref t3, .ref t4])), (t1, .inr (3, [.ref c, .int (nI 3), .int (nI 6), .int (nI 12)])), (t2, .inr (3, [.ref c, .int (nI 76), .int (nI 8), .int (nI 7)])), (t4, .inr (3, [.ref c, .int (nI 302), .int (nI 6), .int (nI 8)]))]) hB (c_X3_put l K t3 c 133 24 7 (tNewC C 133 24) (tNew C 133 24) 0 x (by first | decide | (unfold tHb; decide))) mX3_put dX0_bookGift_17 tb_122 pX3_put ⟨Nat.le_of_ble_eq_true rfl, Nat.le_of_ble_eq_true rfl⟩ ⟨rfl, rfl⟩ ⟨Nat.zero_le _, Nat.zero_le _⟩ rfl (Nat.le_of_ble_eq_true rfl) [3, 5] [0, 1, 2, 4] rfl rfl (by decide) (by decide) (by decide) rfl rfl [0, 1, 2, 4, 3, 5] (by decide) (wB K h t1 t2 t3 t4 c (gPut (tNewC C 133 24) (tNew C 133 24) 0 x)) rfl ?_
  refine gx_aload_n (pc := 20) hB dX0_bookGift_20 1 rfl ?_
  refine gx_get (pc := 21) hB dX0_bookGift_21 inX0 rfl 0 rfl 3 (by decide) tb_129 rfl rfl ?_
  refine gx_iload (pc := 24) hB dX0_bookGift_24 0 rfl ?_
  refine gx_iconst (pc := 26) hB dX0_bookGift_26 1 (by decide) ?_
  refine gx_iload_n (pc := 27) hB dX0_bookGift_27 3 rfl ?_
  refine gx_dVv (pc := 28) (wr := [(h, .inr (0, [.ref c, .ref t1, .ref t2, .ref t3, .ref t4])), (t1, .inr (3, [.ref c, .int (nI 3), .int (nI 6), .int (nI 12)])), (t2, .inr (3, [.ref c, .int (nI 76), .int (nI 8), .int (nI 7)])), (t4, .inr (3, [.ref c, .int (nI 302), .int (nI 6), .int (nI 8)]))]) hB (c_X3_put l K t3 c 133 24 7 (gPut (tNewC C 133 24) (tNew C 133 24) 0 x) (tNew C 133 24) 1 y (by first | decide | (unfold tHb; decide))) mX3_put dX0_bookGift_28 tb_122 pX3_put ⟨Nat.le_of_ble_eq_true rfl, Nat.le_of_ble_eq_true rfl⟩ ⟨rfl, rfl⟩ ⟨Nat.zero_le _, Nat.zero_le _⟩ rfl (Nat.le_of_ble_eq_true rfl) [3, 5] [0, 1, 2, 4] rfl rfl (by decide) (by decide) (by decide) rfl rfl [0, 1, 2, 4, 3, 5] (by decide) (wB K h t1 t2 t3 t4 c (gPut (gPut (tNewC C 133 24) (tNew C 133 24) 0 x) (tNew C 133 24) 1 y)) rfl ?_
  refine gx_aload_n (pc := 31) hB dX0_bookGift_31 1 rfl ?_
  refine gx_get (pc := 32) hB dX0_bookGift_32 inX0 rfl 0 rfl 3 (by decide) tb_129 rfl rfl ?_
  refine gx_iload (pc := 35) hB dX0_bookGift_35 0 rfl ?_
  refine gx_iconst (pc := 37) hB dX0_bookGift_37 2 (by decide) ?_
  refine gx_iload_n (pc := 38) hB dX0_bookGift_38 4 rfl ?_
  refine gx_dVv (pc := 39) (wr := [(h, .inr (0, [.ref c, .ref t1, .ref t2, .ref t3, .ref t4])), (t1, .inr (3, [.ref c, .int (nI 3), .int (nI 6), .int (nI 12)])), (t2, .inr (3, [.ref c, .int (nI 76), .int (nI 8), .int (nI 7)])), (t4, .inr (3, [.ref c, .int (nI 302), .int (nI 6), .int (nI 8)]))]) hB (c_X3_put l K t3 c 133 24 7 (gPut (gPut (tNewC C 133 24) (tNew C 133 24) 0 x) (tNew C 133 24) 1 y) (tNew C 133 24) 2 z (by first | decide | (unfold tHb; decide))) mX3_put dX0_bookGift_39 tb_122 pX3_put ⟨Nat.le_of_ble_eq_true rfl, Nat.le_of_ble_eq_true rfl⟩ ⟨rfl, rfl⟩ ⟨Nat.zero_le _, Nat.zero_le _⟩ rfl (Nat.le_of_ble_eq_true rfl) [3, 5] [0, 1, 2, 4] rfl rfl (by decide) (by decide) (by decide) rfl rfl [0, 1, 2, 4, 3, 5] (by decide) (wB K h t1 t2 t3 t4 c (gPut (gPut (gPut (tNewC C 133 24) (tNew C 133 24) 0 x) (tNew C 133 24) 1 y) (tNew C 133 24) 2 z)) rfl ?_
  refine gx_aload_n (pc := 42) hB dX0_bookGift_42 1 rfl ?_
  refine gx_get (pc := 43) hB dX0_bookGift_43 inX0 rfl 0 rfl 3 (by decide) tb_129 rfl rfl ?_
  refine gx_iload (pc := 46) hB dX0_bookGift_46 0 rfl ?_
  refine gx_iconst (pc := 48) hB dX0_bookGift_48 3 (by decide) ?_
  refine gx_aload_n (pc := 49) hB dX0_bookGift_49 1 rfl ?_
  refine gx_get (pc := 50) hB dX0_bookGift_50 inX0 rfl 0 rfl 0 (by decide) tb_126 rfl rfl ?_
  refine gx_iconst (pc := 53) hB dX0_bookGift_53 0 (by decide) ?_
  refine gx_iald (pc := 54) hB dX0_bookGift_54 5 1 rfl rfl 0 rfl (by decide) (by decide) ?_
  refine gx_dVv (pc := 55) (wr := [(h, .inr (0, [.ref c, .ref t1, .ref t2, .ref t3, .ref t4])), (t1, .inr (3, [.ref c, .int (nI 3), .int (nI 6), .int (nI 12)])), (t2, .inr (3, [.ref c, .int (nI 76), .int (nI 8), .int (nI 7)])), (t4, .inr (3, [.ref c, .int (nI 302), .int (nI 6), .int (nI 8)]))]) hB (c_X3_put l K t3 c 133 24 7 (gPut (gPut (gPut (tNewC C 133 24) (tNew C 133 24) 0 x) (tNew C 133 24) 1 y) (tNew C 133 24) 2 z) (tNew C 133 24) 3 ((gPut (gPut (gPut (tNewC C 133 24) (tNew C 133 24) 0 x) (tNew C 133 24) 1 y) (tNew C 133 24) 2 z) 0) (by first | decide | (unfold tHb; decide))) mX3_put dX0_bookGift_55 tb_122 pX3_put ⟨Nat.le_of_ble_eq_true rfl, Nat.le_of_ble_eq_true rfl⟩ ⟨rfl, rfl⟩ ⟨Nat.zero_le _, Nat.zero_le _⟩ rfl (Nat.le_of_ble_eq_true rfl) [3, 5] [0, 1, 2, 4] rfl rfl (by decide) (by decide) (by decide) rfl rfl [0, 1, 2, 4, 3, 5] (by decide) (wB K h t1 t2 t3 t4 c (gPut (gPut (gPut (gPut (tNewC C 133 24) (tNew C 133 24) 0 x) (tNew C 133 24) 1 y) (tNew C 133 24) 2 z) (tNew C 133 24) 3 ((gPut (gPut (gPut (tNewC C 133 24) (tNew C 133 24) 0 x) (tNew C 133 24) 1 y) (tNew C 133 24) 2 z) 0))) rfl ?_
  refine gx_aload_n (pc := 58) hB dX0_bookGift_58 1 rfl ?_
  refine gx_get (pc := 59) hB dX0_bookGift_59 inX0 rfl 0 rfl 3 (by decide) tb_129 rfl rfl ?_
  refine gx_iload (pc := 62) hB dX0_bookGift_62 0 rfl ?_
  refine gx_bipush (pc := 64) hB dX0_bookGift_64 6 (by decide) ?_
  refine gx_iload (pc := 66) hB dX0_bookGift_66 5 rfl ?_
  refine gx_dVv (pc := 68) (wr := [(h, .inr (0, [.ref c, .ref t1, .ref t2, .ref t3, .ref t4])), (t1, .inr (3, [.ref c, .int (nI 3), .int (nI 6), .int (nI 12)])), (t2, .inr (3, [.ref c, .int (nI 76), .int (nI 8), .int (nI 7)])), (t4, .inr (3, [.ref c, .int (nI 302), .int (nI 6), .int (nI 8)]))]) hB (c_X3_put l K t3 c 133 24 7 (gPut (gPut (gPut (gPut (tNewC C 133 24) (tNew C 133 24) 0 x) (tNew C 133 24) 1 y) (tNew C 133 24) 2 z) (tNew C 133 24) 3 ((gPut (gPut (gPut (tNewC C 133 24) (tNew C 133 24) 0 x) (tNew C 133 24) 1 y) (tNew C 133 24) 2 z) 0)) (tNew C 133 24) 6 u (by first | decide | (unfold tHb; decide))) mX3_put dX0_bookGift_68 tb_122 pX3_put ⟨Nat.le_of_ble_eq_true rfl, Nat.le_of_ble_eq_true rfl⟩ ⟨rfl, rfl⟩ ⟨Nat.zero_le _, Nat.zero_le _⟩ rfl (Nat.le_of_ble_eq_true rfl) [3, 5] [0, 1, 2, 4] rfl rfl (by decide) (by decide) (by decide) rfl rfl [0, 1, 2, 4, 3, 5] (by decide) (wB K h t1 t2 t3 t4 c (gPut (gPut (gPut (gPut (gPut (tNewC C 133 24) (tNew C 133 24) 0 x) (tNew C 133 24) 1 y) (tNew C 133 24) 2 z) (tNew C 133 24) 3 ((gPut (gPut (gPut (tNewC C 133 24) (tNew C 133 24) 0 x) (tNew C 133 24) 1 y) (tNew C 133 24) 2 z) 0)) (tNew C 133 24) 6 u)) rfl ?_
  refine gx_aload_n (pc := 71) hB dX0_bookGift_71 1 rfl ?_
  refine gx_get (pc := 72) hB dX0_bookGift_72 inX0 rfl 0 rfl 1 (by decide) tb_127 rfl rfl ?_
  refine gx_iload_n (pc := 75) hB dX0_bookGift_75 3 rfl ?_
  refine gx_iconst (pc := 76) hB dX0_bookGift_76 0 (by decide) ?_
  refine gx_iload_n (pc := 77) hB dX0_bookGift_77 4 rfl ?_
  refine gx_dVv (pc := 78) (wr := [(h, .inr (0, [.ref c, .ref t1, .ref t2, .ref t3, .ref t4])), (t2, .inr (3, [.ref c, .int (nI 76), .int (nI 8), .int (nI 7)])), (t3, .inr (3, [.ref c, .int (nI 133), .int (nI 24), .int (nI 7)])), (t4, .inr (3, [.ref c, .int (nI 302), .int (nI 6), .int (nI 8)]))]) hB (c_X3_add l K t1 c 3 6 12 (gPut (gPut (gPut (gPut (gPut (tNewC C 133 24) (tNew C 133 24) 0 x) (tNew C 133 24) 1 y) (tNew C 133 24) 2 z) (tNew C 133 24) 3 ((gPut (gPut (gPut (tNewC C 133 24) (tNew C 133 24) 0 x) (tNew C 133 24) 1 y) (tNew C 133 24) 2 z) 0)) (tNew C 133 24) 6 u) y 0 z (by first | decide | (unfold tHb; decide))) mX3_add dX0_bookGift_78 tb_269 pX3_add ⟨Nat.le_of_ble_eq_true rfl, Nat.le_of_ble_eq_true rfl⟩ ⟨rfl, rfl⟩ ⟨Nat.zero_le _, Nat.zero_le _⟩ rfl (Nat.le_of_ble_eq_true rfl) [1, 5] [0, 2, 3, 4] rfl rfl (by decide) (by decide) (by decide) rfl rfl [0, 4, 1, 2, 3, 5] (by decide) (wB K h t1 t2 t3 t4 c (pAdd (gPut (gPut (gPut (gPut (gPut (tNewC C 133 24) (tNew C 133 24) 0 x) (tNew C 133 24) 1 y) (tNew C 133 24) 2 z) (tNew C 133 24) 3 ((gPut (gPut (gPut (tNewC C 133 24) (tNew C 133 24) 0 x) (tNew C 133 24) 1 y) (tNew C 133 24) 2 z) 0)) (tNew C 133 24) 6 u) y 0 z)) rfl ?_
  refine gx_aload_n (pc := 81) hB dX0_bookGift_81 1 rfl ?_
  refine gx_get (pc := 82) hB dX0_bookGift_82 inX0 rfl 0 rfl 1 (by decide) tb_127 rfl rfl ?_
  refine gx_iload_n (pc := 85) hB dX0_bookGift_85 3 rfl ?_
  refine gx_iconst (pc := 86) hB dX0_bookGift_86 1 (by decide) ?_
  refine gx_iload_n (pc := 87) hB dX0_bookGift_87 4 rfl ?_
  refine gx_dVv (pc := 88) (wr := [(h, .inr (0, [.ref c, .ref t1, .ref t2, .ref t3, .ref t4])), (t2, .inr (3, [.ref c, .int (nI 76), .int (nI 8), .int (nI 7)])), (t3, .inr (3, [.ref c, .int (nI 133), .int (nI 24), .int (nI 7)])), (t4, .inr (3, [.ref c, .int (nI 302), .int (nI 6), .int (nI 8)]))]) hB (c_X3_add l K t1 c 3 6 12 (pAdd (gPut (gPut (gPut (gPut (gPut (tNewC C 133 24) (tNew C 133 24) 0 x) (tNew C 133 24) 1 y) (tNew C 133 24) 2 z) (tNew C 133 24) 3 ((gPut (gPut (gPut (tNewC C 133 24) (tNew C 133 24) 0 x) (tNew C 133 24) 1 y) (tNew C 133 24) 2 z) 0)) (tNew C 133 24) 6 u) y 0 z) y 1 z (by first | decide | (unfold tHb; decide))) mX3_add dX0_bookGift_88 tb_269 pX3_add ⟨Nat.le_of_ble_eq_true rfl, Nat.le_of_ble_eq_true rfl⟩ ⟨rfl, rfl⟩ ⟨Nat.zero_le _, Nat.zero_le _⟩ rfl (Nat.le_of_ble_eq_true rfl) [1, 5] [0, 2, 3, 4] rfl rfl (by decide) (by decide) (by decide) rfl rfl [0, 4, 1, 2, 3, 5] (by decide) (wB K h t1 t2 t3 t4 c (pAdd (pAdd (gPut (gPut (gPut (gPut (gPut (tNewC C 133 24) (tNew C 133 24) 0 x) (tNew C 133 24) 1 y) (tNew C 133 24) 2 z) (tNew C 133 24) 3 ((gPut (gPut (gPut (tNewC C 133 24) (tNew C 133 24) 0 x) (tNew C 133 24) 1 y) (tNew C 133 24) 2 z) 0)) (tNew C 133 24) 6 u) y 0 z) y 1 z)) rfl ?_
  refine gx_iload (pc := 91) hB dX0_bookGift_91 0 rfl ?_
  have e1 : (bBook C x y z u).1 = tNew C 133 24 := by simp [bBook]
  have f0 : (bBook C x y z u).2 = pAdd (pAdd (gPut (gPut (gPut (gPut (gPut (tNewC C 133 24) (tNew C 133 24) 0 x) (tNew C 133 24) 1 y) (tNew C 133 24) 2 z) (tNew C 133 24) 3 ((gPut (gPut (gPut (tNewC C 133 24) (tNew C 133 24) 0 x) (tNew C 133 24) 1 y) (tNew C 133 24) 2 z) 0)) (tNew C 133 24) 6 u) y 0 z) y 1 z := by simp [bBook]
  exact gx_iret (pc := 93) hC dX0_bookGift_93 (Nat.zero_le _) (Nat.zero_le _) (⟨by rw [e1], by rw [f0]⟩)
theorem pX0_addGift : (parseMethodDescriptor yX0_addGift.desc).map (fun d => d.parameters.length) = some 3 := by decide +kernel
theorem mX0_addGift : gx_M yX0_addGift cX0_addGift 4 (some .int) := ⟨tb_254, tb_255, tb_69, tb_256, by decide, by decide⟩
set_option maxHeartbeats 4000000 in
set_option maxRecDepth 100000 in
theorem c_X0_addGift (l : Launch) (K : gx_K) (h t1 t2 t3 t4 c : Nat) (C : Nat → Int32) (x y z : Int32)  : gx_Ctr l K yX0_addGift cX0_addGift 4 (some .int) (rmm 3 48) [.ref h, .int x, .int y, .int z] (wB K h t1 t2 t3 t4 c C) (gx_D (some (.int ((bGive C x y z).1))) (wB K h t1 t2 t3 t4 c ((bGive C x y z).2))) := by
  refine gx_of (by decide) (Nat.le_of_ble_eq_true rfl) (fun G hC => ?_)
  have hB := hC.b
  refine gx_lv (lv' := [(0, .ref h), (1, .int x), (2, .int y), (3, .int z)]) rfl ?_
  refine gx_aload_n (pc := 0) hB dX0_addGift_0 0 rfl ?_
  refine gx_get (pc := 1) hB dX0_addGift_1 inX0 rfl 0 rfl 2 (by decide) tb_128 rfl rfl ?_
  refine gx_iload_n (pc := 4) hB dX0_addGift_4 1 rfl ?_
  refine gx_dVi (pc := 5) (r := bI (tHas C 76 x)) (wr := [(h, .inr (0, [.ref c, .ref t1, .ref t2, .ref t3, .ref t4])), (t1, .inr (3, [.ref c, .int (nI 3), .int (nI 6), .int (nI 12)])), (t3, .inr (3, [.ref c, .int (nI 133), .int (nI 24), .int (nI 7)])), (t4, .inr (3, [.ref c, .int (nI 302), .int (nI 6), .int (nI 8)]))]) hB (c_X3_has l K t2 c 76 8 7 C x (by first | decide | (unfold tHb; decide))) mX3_has dX0_addGift_5 tb_238 pX3_has ⟨Nat.le_of_ble_eq_true rfl, Nat.le_of_ble_eq_true rfl⟩ ⟨rfl, rfl⟩ ⟨Nat.zero_le _, Nat.zero_le _⟩ rfl (Nat.le_of_ble_eq_true rfl) [2, 5] [0, 1, 3, 4] rfl rfl (by decide) (by decide) (by decide) rfl rfl [0, 1, 4, 2, 3, 5] (by decide) (wB K h t1 t2 t3 t4 c C) rfl ?_
  refine gx_if_eq_b (pc := 8) hB 33 dX0_addGift_8 (by decide) (fun c_1 => ?_) (fun c_1 => ?_)
  · refine gx_iconst (pc := 33) hB dX0_addGift_33 (-1) (by decide) ?_
    have e1 : (bGive C x y z).1 = (-1) := by simp [bGive, c_1]
    have f0 : (bGive C x y z).2 = C := by simp [bGive, c_1]
    exact gx_iret (pc := 34) hC dX0_addGift_34 (Nat.zero_le _) (Nat.zero_le _) (⟨by rw [e1], by rw [f0]⟩)
  · refine gx_aload_n (pc := 11) hB dX0_addGift_11 0 rfl ?_
    refine gx_get (pc := 12) hB dX0_addGift_12 inX0 rfl 0 rfl 1 (by decide) tb_127 rfl rfl ?_
    refine gx_iload_n (pc := 15) hB dX0_addGift_15 2 rfl ?_
    refine gx_dVi (pc := 16) (r := bI (tHas C 3 y)) (wr := [(h, .inr (0, [.ref c, .ref t1, .ref t2, .ref t3, .ref t4])), (t2, .inr (3, [.ref c, .int (nI 76), .int (nI 8), .int (nI 7)])), (t3, .inr (3, [.ref c, .int (nI 133), .int (nI 24), .int (nI 7)])), (t4, .inr (3, [.ref c, .int (nI 302), .int (nI 6), .int (nI 8)]))]) hB (c_X3_has l K t1 c 3 6 12 C y (by first | decide | (unfold tHb; decide))) mX3_has dX0_addGift_16 tb_238 pX3_has ⟨Nat.le_of_ble_eq_true rfl, Nat.le_of_ble_eq_true rfl⟩ ⟨rfl, rfl⟩ ⟨Nat.zero_le _, Nat.zero_le _⟩ rfl (Nat.le_of_ble_eq_true rfl) [1, 5] [0, 2, 3, 4] rfl rfl (by decide) (by decide) (by decide) rfl rfl [0, 4, 1, 2, 3, 5] (by decide) (wB K h t1 t2 t3 t4 c C) rfl ?_
    refine gx_if_eq_b (pc := 19) hB 33 dX0_addGift_19 (by decide) (fun c_2 => ?_) (fun c_2 => ?_)
    · refine gx_iconst (pc := 33) hB dX0_addGift_33 (-1) (by decide) ?_
      have e1 : (bGive C x y z).1 = (-1) := by simp [bGive, c_1, c_2]
      have f0 : (bGive C x y z).2 = C := by simp [bGive, c_1, c_2]
      exact gx_iret (pc := 34) hC dX0_addGift_34 (Nat.zero_le _) (Nat.zero_le _) (⟨by rw [e1], by rw [f0]⟩)
    · refine gx_iload_n (pc := 22) hB dX0_addGift_22 3 rfl ?_
      refine gx_iconst (pc := 23) hB dX0_addGift_23 1 (by decide) ?_
      refine gx_sipush (pc := 24) hB dX0_addGift_24 9999 (by decide) ?_
      refine gx_w0 (pc := 27) (r := bI (bIn z 1 9999)) hB (c_X4_within l K z 1 9999 ) mX4_within dX0_addGift_27 ⟨Nat.le_of_ble_eq_true rfl, Nat.le_of_ble_eq_true rfl⟩ ⟨rfl, rfl⟩ ⟨Nat.zero_le _, Nat.zero_le _⟩ (Nat.le_of_ble_eq_true rfl) [0, 1, 2, 3, 4, 5] rfl (by decide) ?_
      refine gx_if_ne_b (pc := 30) hB 35 dX0_addGift_30 (by decide) (fun c_3 => ?_) (fun c_3 => ?_)
      · refine gx_aload_n (pc := 35) hB dX0_addGift_35 0 rfl ?_
        refine gx_iload_n (pc := 36) hB dX0_addGift_36 2 rfl ?_
        refine gx_dVi (pc := 37) (r := bI (bClosed C y)) (wr := []) hB (c_X0_isClosed l K h t1 t2 t3 t4 c C y ) mX0_isClosed dX0_addGift_37 tb_257 pX0_isClosed ⟨Nat.le_of_ble_eq_true rfl, Nat.le_of_ble_eq_true rfl⟩ ⟨rfl, rfl⟩ ⟨Nat.zero_le _, Nat.zero_le _⟩ rfl (Nat.le_of_ble_eq_true rfl) [0, 1, 2, 3, 4, 5] [] rfl rfl (by decide) (by decide) (by decide) rfl rfl [0, 1, 2, 3, 4, 5] (by decide) (wB K h t1 t2 t3 t4 c C) rfl ?_
        refine gx_if_eq_b (pc := 40) hB 46 dX0_addGift_40 (by decide) (fun c_4 => ?_) (fun c_4 => ?_)
        · refine gx_aload_n (pc := 46) hB dX0_addGift_46 0 rfl ?_
          refine gx_get (pc := 47) hB dX0_addGift_47 inX0 rfl 0 rfl 3 (by decide) tb_129 rfl rfl ?_
          refine gx_dVi (pc := 50) (r := bI (tFull C 133 24)) (wr := [(h, .inr (0, [.ref c, .ref t1, .ref t2, .ref t3, .ref t4])), (t1, .inr (3, [.ref c, .int (nI 3), .int (nI 6), .int (nI 12)])), (t2, .inr (3, [.ref c, .int (nI 76), .int (nI 8), .int (nI 7)])), (t4, .inr (3, [.ref c, .int (nI 302), .int (nI 6), .int (nI 8)]))]) hB (c_X3_isFull l K t3 c 133 24 7 C (by first | decide | (unfold tHb; decide))) mX3_isFull dX0_addGift_50 tb_261 pX3_isFull ⟨Nat.le_of_ble_eq_true rfl, Nat.le_of_ble_eq_true rfl⟩ ⟨rfl, rfl⟩ ⟨Nat.zero_le _, Nat.zero_le _⟩ rfl (Nat.le_of_ble_eq_true rfl) [3, 5] [0, 1, 2, 4] rfl rfl (by decide) (by decide) (by decide) rfl rfl [0, 1, 2, 4, 3, 5] (by decide) (wB K h t1 t2 t3 t4 c C) rfl ?_
          refine gx_if_eq_b (pc := 53) hB 59 dX0_addGift_53 (by decide) (fun c_5 => ?_) (fun c_5 => ?_)
          · refine gx_aload_n (pc := 59) hB dX0_addGift_59 0 rfl ?_
            refine gx_iload_n (pc := 60) hB dX0_addGift_60 1 rfl ?_
            refine gx_iload_n (pc := 61) hB dX0_addGift_61 2 rfl ?_
            refine gx_iload_n (pc := 62) hB dX0_addGift_62 3 rfl ?_
            refine gx_iconst (pc := 63) hB dX0_addGift_63 (-1) (by decide) ?_
            refine gx_dVi (pc := 64) (r := (bBook C x y z (-1)).1) (wr := []) hB (c_X0_bookGift l K h t1 t2 t3 t4 c C x y z (-1) ) mX0_bookGift dX0_addGift_64 tb_265 pX0_bookGift ⟨Nat.le_of_ble_eq_true rfl, Nat.le_of_ble_eq_true rfl⟩ ⟨rfl, rfl⟩ ⟨Nat.zero_le _, Nat.zero_le _⟩ rfl (Nat.le_of_ble_eq_true rfl) [0, 1, 2, 3, 4, 5] [] rfl rfl (by decide) (by decide) (by decide) rfl rfl [0, 1, 2, 3, 4, 5] (by decide) (wB K h t1 t2 t3 t4 c ((bBook C x y z (-1)).2)) rfl ?_
            have e1 : (bGive C x y z).1 = (bBook C x y z (-1)).1 := by simp [bGive, c_1, c_2, c_3, c_4, c_5]
            have f0 : (bGive C x y z).2 = (bBook C x y z (-1)).2 := by simp [bGive, c_1, c_2, c_3, c_4, c_5]
            exact gx_iret (pc := 67) hC dX0_addGift_67 (Nat.zero_le _) (Nat.zero_le _) (⟨by rw [e1], by rw [f0]⟩)
          · refine gx_bipush (pc := 56) hB dX0_addGift_56 (-3) (by decide) ?_
            have e1 : (bGive C x y z).1 = (-3) := by simp [bGive, c_1, c_2, c_3, c_4, c_5]
            have f0 : (bGive C x y z).2 = C := by simp [bGive, c_1, c_2, c_3, c_4, c_5]
            exact gx_iret (pc := 58) hC dX0_addGift_58 (Nat.zero_le _) (Nat.zero_le _) (⟨by rw [e1], by rw [f0]⟩)
        · refine gx_bipush (pc := 43) hB dX0_addGift_43 (-2) (by decide) ?_
          have e1 : (bGive C x y z).1 = (-2) := by simp [bGive, c_1, c_2, c_3, c_4]
          have f0 : (bGive C x y z).2 = C := by simp [bGive, c_1, c_2, c_3, c_4]
          exact gx_iret (pc := 45) hC dX0_addGift_45 (Nat.zero_le _) (Nat.zero_le _) (⟨by rw [e1], by rw [f0]⟩)
      · refine gx_iconst (pc := 33) hB dX0_addGift_33 (-1) (by decide) ?_
        have e1 : (bGive C x y z).1 = (-1) := by simp [bGive, c_1, c_2, c_3]
        have f0 : (bGive C x y z).2 = C := by simp [bGive, c_1, c_2, c_3]
        exact gx_iret (pc := 34) hC dX0_addGift_34 (Nat.zero_le _) (Nat.zero_le _) (⟨by rw [e1], by rw [f0]⟩)
theorem pX0_taxOf : (parseMethodDescriptor yX0_taxOf.desc).map (fun d => d.parameters.length) = some 1 := by decide +kernel
theorem mX0_taxOf : gx_M yX0_taxOf cX0_taxOf 2 (some .int) := ⟨tb_346, tb_9, tb_69, tb_347, by decide, by decide⟩
set_option maxHeartbeats 4000000 in
set_option maxRecDepth 100000 in
theorem c_X0_taxOf (l : Launch) (K : gx_K) (h t1 t2 t3 t4 c : Nat) (C : Nat → Int32) (x : Int32)  : gx_Ctr l K yX0_taxOf cX0_taxOf 2 (some .int) (rmm 2 22) [.ref h, .int x] (wB K h t1 t2 t3 t4 c C) (gx_D (some (.int (bTax C x))) (wB K h t1 t2 t3 t4 c C)) := by
  refine gx_of (by decide) (Nat.le_of_ble_eq_true rfl) (fun G hC => ?_)
  have hB := hC.b
  refine gx_lv (lv' := [(0, .ref h), (1, .int x)]) rfl ?_
  refine gx_aload_n (pc := 0) hB dX0_taxOf_0 0 rfl ?_
  refine gx_get (pc := 1) hB dX0_taxOf_1 inX0 rfl 0 rfl 3 (by decide) tb_129 rfl rfl ?_
  refine gx_iload_n (pc := 4) hB dX0_taxOf_4 1 rfl ?_
  refine gx_iconst (pc := 5) hB dX0_taxOf_5 2 (by decide) ?_
  refine gx_dVi (pc := 6) (r := gAt C x 2) (wr := [(h, .inr (0, [.ref c, .ref t1, .ref t2, .ref t3, .ref t4])), (t1, .inr (3, [.ref c, .int (nI 3), .int (nI 6), .int (nI 12)])), (t2, .inr (3, [.ref c, .int (nI 76), .int (nI 8), .int (nI 7)])), (t4, .inr (3, [.ref c, .int (nI 302), .int (nI 6), .int (nI 8)]))]) hB (c_X3_at l K t3 c 133 24 7 C x 2 (by first | decide | (unfold tHb; decide))) mX3_at dX0_taxOf_6 tb_245 pX3_at ⟨Nat.le_of_ble_eq_true rfl, Nat.le_of_ble_eq_true rfl⟩ ⟨rfl, rfl⟩ ⟨Nat.zero_le _, Nat.zero_le _⟩ rfl (Nat.le_of_ble_eq_true rfl) [3, 5] [0, 1, 2, 4] rfl rfl (by decide) (by decide) (by decide) rfl rfl [0, 1, 2, 4, 3, 5] (by decide) (wB K h t1 t2 t3 t4 c C) rfl ?_
  refine gx_iconst (pc := 9) hB dX0_taxOf_9 4 (by decide) ?_
  refine gx_idiv (pc := 10) hB dX0_taxOf_10 (by decide) ?_
  have e1 : bTax C x = gAt C x 2 / 4 := by simp [bTax]
  exact gx_iret (pc := 11) hC dX0_taxOf_11 (Nat.zero_le _) (Nat.zero_le _) (⟨by rw [e1], rfl⟩)
theorem pX0_homeOfGift : (parseMethodDescriptor yX0_homeOfGift.desc).map (fun d => d.parameters.length) = some 1 := by decide +kernel
theorem mX0_homeOfGift : gx_M yX0_homeOfGift cX0_homeOfGift 2 (some .int) := ⟨tb_342, tb_8, tb_69, tb_343, by decide, by decide⟩
set_option maxHeartbeats 4000000 in
set_option maxRecDepth 100000 in
theorem c_X0_homeOfGift (l : Launch) (K : gx_K) (h t1 t2 t3 t4 c : Nat) (C : Nat → Int32) (x : Int32)  : gx_Ctr l K yX0_homeOfGift cX0_homeOfGift 2 (some .int) (rmm 2 22) [.ref h, .int x] (wB K h t1 t2 t3 t4 c C) (gx_D (some (.int (bHome C x))) (wB K h t1 t2 t3 t4 c C)) := by
  refine gx_of (by decide) (Nat.le_of_ble_eq_true rfl) (fun G hC => ?_)
  have hB := hC.b
  refine gx_lv (lv' := [(0, .ref h), (1, .int x)]) rfl ?_
  refine gx_aload_n (pc := 0) hB dX0_homeOfGift_0 0 rfl ?_
  refine gx_get (pc := 1) hB dX0_homeOfGift_1 inX0 rfl 0 rfl 1 (by decide) tb_127 rfl rfl ?_
  refine gx_aload_n (pc := 4) hB dX0_homeOfGift_4 0 rfl ?_
  refine gx_get (pc := 5) hB dX0_homeOfGift_5 inX0 rfl 0 rfl 3 (by decide) tb_129 rfl rfl ?_
  refine gx_iload_n (pc := 8) hB dX0_homeOfGift_8 1 rfl ?_
  refine gx_iconst (pc := 9) hB dX0_homeOfGift_9 1 (by decide) ?_
  refine gx_dVi (pc := 10) (r := gAt C x 1) (wr := [(h, .inr (0, [.ref c, .ref t1, .ref t2, .ref t3, .ref t4])), (t1, .inr (3, [.ref c, .int (nI 3), .int (nI 6), .int (nI 12)])), (t2, .inr (3, [.ref c, .int (nI 76), .int (nI 8), .int (nI 7)])), (t4, .inr (3, [.ref c, .int (nI 302), .int (nI 6), .int (nI 8)]))]) hB (c_X3_at l K t3 c 133 24 7 C x 1 (by first | decide | (unfold tHb; decide))) mX3_at dX0_homeOfGift_10 tb_245 pX3_at ⟨Nat.le_of_ble_eq_true rfl, Nat.le_of_ble_eq_true rfl⟩ ⟨rfl, rfl⟩ ⟨Nat.zero_le _, Nat.zero_le _⟩ rfl (Nat.le_of_ble_eq_true rfl) [3, 5] [0, 1, 2, 4] rfl rfl (by decide) (by decide) (by decide) rfl rfl [0, 1, 2, 4, 3, 5] (by decide) (wB K h t1 t2 t3 t4 c C) rfl ?_
  refine gx_bipush (pc := 13) hB dX0_homeOfGift_13 10 (by decide) ?_
  refine gx_dVi (pc := 15) (r := pAt C (gAt C x 1) 10) (wr := [(h, .inr (0, [.ref c, .ref t1, .ref t2, .ref t3, .ref t4])), (t2, .inr (3, [.ref c, .int (nI 76), .int (nI 8), .int (nI 7)])), (t3, .inr (3, [.ref c, .int (nI 133), .int (nI 24), .int (nI 7)])), (t4, .inr (3, [.ref c, .int (nI 302), .int (nI 6), .int (nI 8)]))]) hB (c_X3_at l K t1 c 3 6 12 C (gAt C x 1) 10 (by first | decide | (unfold tHb; decide))) mX3_at dX0_homeOfGift_15 tb_245 pX3_at ⟨Nat.le_of_ble_eq_true rfl, Nat.le_of_ble_eq_true rfl⟩ ⟨rfl, rfl⟩ ⟨Nat.zero_le _, Nat.zero_le _⟩ rfl (Nat.le_of_ble_eq_true rfl) [1, 5] [0, 2, 3, 4] rfl rfl (by decide) (by decide) (by decide) rfl rfl [0, 4, 1, 2, 3, 5] (by decide) (wB K h t1 t2 t3 t4 c C) rfl ?_
  have e1 : bHome C x = pAt C (gAt C x 1) 10 := by simp [bHome]
  exact gx_iret (pc := 18) hC dX0_homeOfGift_18 (Nat.zero_le _) (Nat.zero_le _) (⟨by rw [e1], rfl⟩)
theorem pX0_isOf : (parseMethodDescriptor yX0_isOf.desc).map (fun d => d.parameters.length) = some 2 := by decide +kernel
theorem mX0_isOf : gx_M yX0_isOf cX0_isOf 3 (some .boolean) := ⟨tb_322, tb_3, tb_69, tb_323, by decide, by decide⟩
set_option maxHeartbeats 4000000 in
set_option maxRecDepth 100000 in
theorem c_X0_isOf (l : Launch) (K : gx_K) (h t1 t2 t3 t4 c : Nat) (C : Nat → Int32) (x y : Int32)  : gx_Ctr l K yX0_isOf cX0_isOf 3 (some .boolean) (rmm 2 22) [.ref h, .int x, .int y] (wB K h t1 t2 t3 t4 c C) (gx_D (some (.int (bI (bIsOf C x y)))) (wB K h t1 t2 t3 t4 c C)) := by
  refine gx_of (by decide) (Nat.le_of_ble_eq_true rfl) (fun G hC => ?_)
  have hB := hC.b
  refine gx_lv (lv' := [(0, .ref h), (1, .int x), (2, .int y)]) rfl ?_
  refine gx_aload_n (pc := 0) hB dX0_isOf_0 0 rfl ?_
  refine gx_get (pc := 1) hB dX0_isOf_1 inX0 rfl 0 rfl 3 (by decide) tb_129 rfl rfl ?_
  refine gx_iload_n (pc := 4) hB dX0_isOf_4 1 rfl ?_
  refine gx_iconst (pc := 5) hB dX0_isOf_5 0 (by decide) ?_
  refine gx_dVi (pc := 6) (r := gAt C x 0) (wr := [(h, .inr (0, [.ref c, .ref t1, .ref t2, .ref t3, .ref t4])), (t1, .inr (3, [.ref c, .int (nI 3), .int (nI 6), .int (nI 12)])), (t2, .inr (3, [.ref c, .int (nI 76), .int (nI 8), .int (nI 7)])), (t4, .inr (3, [.ref c, .int (nI 302), .int (nI 6), .int (nI 8)]))]) hB (c_X3_at l K t3 c 133 24 7 C x 0 (by first | decide | (unfold tHb; decide))) mX3_at dX0_isOf_6 tb_245 pX3_at ⟨Nat.le_of_ble_eq_true rfl, Nat.le_of_ble_eq_true rfl⟩ ⟨rfl, rfl⟩ ⟨Nat.zero_le _, Nat.zero_le _⟩ rfl (Nat.le_of_ble_eq_true rfl) [3, 5] [0, 1, 2, 4] rfl rfl (by decide) (by decide) (by decide) rfl rfl [0, 1, 2, 4, 3, 5] (by decide) (wB K h t1 t2 t3 t4 c C) rfl ?_
  refine gx_iload_n (pc := 9) hB dX0_isOf_9 2 rfl ?_
  refine gx_icmp_ne (pc := 10) hB 17 dX0_isOf_10 (by decide) (fun c_1 => ?_) (fun c_1 => ?_)
  · refine gx_iconst (pc := 17) hB dX0_isOf_17 0 (by decide) ?_
    have e1 : bI (bIsOf C x y) = 0 := by simp [bIsOf, bI, eq_false c_1]
    exact gx_zret (pc := 18) hC dX0_isOf_18 (Nat.zero_le _) (Nat.zero_le _) (by decide) (⟨by rw [e1], rfl⟩)
  · refine gx_iconst (pc := 13) hB dX0_isOf_13 1 (by decide) ?_
    refine gx_goto (pc := 14) hB 18 dX0_isOf_14 (by decide) ?_
    have e1 : bI (bIsOf C x y) = 1 := by simp [bIsOf, bI, c_1]
    exact gx_zret (pc := 18) hC dX0_isOf_18 (Nat.zero_le _) (Nat.zero_le _) (by decide) (⟨by rw [e1], rfl⟩)
theorem pX0_isClaimed : (parseMethodDescriptor yX0_isClaimed.desc).map (fun d => d.parameters.length) = some 1 := by decide +kernel
theorem mX0_isClaimed : gx_M yX0_isClaimed cX0_isClaimed 2 (some .boolean) := ⟨tb_330, tb_5, tb_69, tb_331, by decide, by decide⟩
set_option maxHeartbeats 4000000 in
set_option maxRecDepth 100000 in
theorem c_X0_isClaimed (l : Launch) (K : gx_K) (h t1 t2 t3 t4 c : Nat) (C : Nat → Int32) (x : Int32)  : gx_Ctr l K yX0_isClaimed cX0_isClaimed 2 (some .boolean) (rmm 2 22) [.ref h, .int x] (wB K h t1 t2 t3 t4 c C) (gx_D (some (.int (bI (bClaimed C x)))) (wB K h t1 t2 t3 t4 c C)) := by
  refine gx_of (by decide) (Nat.le_of_ble_eq_true rfl) (fun G hC => ?_)
  have hB := hC.b
  refine gx_lv (lv' := [(0, .ref h), (1, .int x)]) rfl ?_
  refine gx_aload_n (pc := 0) hB dX0_isClaimed_0 0 rfl ?_
  refine gx_get (pc := 1) hB dX0_isClaimed_1 inX0 rfl 0 rfl 3 (by decide) tb_129 rfl rfl ?_
  refine gx_iload_n (pc := 4) hB dX0_isClaimed_4 1 rfl ?_
  refine gx_iconst (pc := 5) hB dX0_isClaimed_5 4 (by decide) ?_
  refine gx_dVi (pc := 6) (r := gAt C x 4) (wr := [(h, .inr (0, [.ref c, .ref t1, .ref t2, .ref t3, .ref t4])), (t1, .inr (3, [.ref c, .int (nI 3), .int (nI 6), .int (nI 12)])), (t2, .inr (3, [.ref c, .int (nI 76), .int (nI 8), .int (nI 7)])), (t4, .inr (3, [.ref c, .int (nI 302), .int (nI 6), .int (nI 8)]))]) hB (c_X3_at l K t3 c 133 24 7 C x 4 (by first | decide | (unfold tHb; decide))) mX3_at dX0_isClaimed_6 tb_245 pX3_at ⟨Nat.le_of_ble_eq_true rfl, Nat.le_of_ble_eq_true rfl⟩ ⟨rfl, rfl⟩ ⟨Nat.zero_le _, Nat.zero_le _⟩ rfl (Nat.le_of_ble_eq_true rfl) [3, 5] [0, 1, 2, 4] rfl rfl (by decide) (by decide) (by decide) rfl rfl [0, 1, 2, 4, 3, 5] (by decide) (wB K h t1 t2 t3 t4 c C) rfl ?_
  refine gx_iconst (pc := 9) hB dX0_isClaimed_9 1 (by decide) ?_
  refine gx_icmp_ne (pc := 10) hB 17 dX0_isClaimed_10 (by decide) (fun c_1 => ?_) (fun c_1 => ?_)
  · refine gx_iconst (pc := 17) hB dX0_isClaimed_17 0 (by decide) ?_
    have e1 : bI (bClaimed C x) = 0 := by simp [bClaimed, bI, eq_false c_1]
    exact gx_zret (pc := 18) hC dX0_isClaimed_18 (Nat.zero_le _) (Nat.zero_le _) (by decide) (⟨by rw [e1], rfl⟩)
  · refine gx_iconst (pc := 13) hB dX0_isClaimed_13 1 (by decide) ?_
    refine gx_goto (pc := 14) hB 18 dX0_isClaimed_14 (by decide) ?_
    have e1 : bI (bClaimed C x) = 1 := by simp [bClaimed, bI, c_1]
    exact gx_zret (pc := 18) hC dX0_isClaimed_18 (Nat.zero_le _) (Nat.zero_le _) (by decide) (⟨by rw [e1], rfl⟩)
theorem pX0_isRefunded : (parseMethodDescriptor yX0_isRefunded.desc).map (fun d => d.parameters.length) = some 1 := by decide +kernel
theorem mX0_isRefunded : gx_M yX0_isRefunded cX0_isRefunded 2 (some .boolean) := ⟨tb_334, tb_6, tb_69, tb_335, by decide, by decide⟩
set_option maxHeartbeats 4000000 in
set_option maxRecDepth 100000 in
theorem c_X0_isRefunded (l : Launch) (K : gx_K) (h t1 t2 t3 t4 c : Nat) (C : Nat → Int32) (x : Int32)  : gx_Ctr l K yX0_isRefunded cX0_isRefunded 2 (some .boolean) (rmm 2 22) [.ref h, .int x] (wB K h t1 t2 t3 t4 c C) (gx_D (some (.int (bI (bRefunded C x)))) (wB K h t1 t2 t3 t4 c C)) := by
  refine gx_of (by decide) (Nat.le_of_ble_eq_true rfl) (fun G hC => ?_)
  have hB := hC.b
  refine gx_lv (lv' := [(0, .ref h), (1, .int x)]) rfl ?_
  refine gx_aload_n (pc := 0) hB dX0_isRefunded_0 0 rfl ?_
  refine gx_get (pc := 1) hB dX0_isRefunded_1 inX0 rfl 0 rfl 3 (by decide) tb_129 rfl rfl ?_
  refine gx_iload_n (pc := 4) hB dX0_isRefunded_4 1 rfl ?_
  refine gx_iconst (pc := 5) hB dX0_isRefunded_5 5 (by decide) ?_
  refine gx_dVi (pc := 6) (r := gAt C x 5) (wr := [(h, .inr (0, [.ref c, .ref t1, .ref t2, .ref t3, .ref t4])), (t1, .inr (3, [.ref c, .int (nI 3), .int (nI 6), .int (nI 12)])), (t2, .inr (3, [.ref c, .int (nI 76), .int (nI 8), .int (nI 7)])), (t4, .inr (3, [.ref c, .int (nI 302), .int (nI 6), .int (nI 8)]))]) hB (c_X3_at l K t3 c 133 24 7 C x 5 (by first | decide | (unfold tHb; decide))) mX3_at dX0_isRefunded_6 tb_245 pX3_at ⟨Nat.le_of_ble_eq_true rfl, Nat.le_of_ble_eq_true rfl⟩ ⟨rfl, rfl⟩ ⟨Nat.zero_le _, Nat.zero_le _⟩ rfl (Nat.le_of_ble_eq_true rfl) [3, 5] [0, 1, 2, 4] rfl rfl (by decide) (by decide) (by decide) rfl rfl [0, 1, 2, 4, 3, 5] (by decide) (wB K h t1 t2 t3 t4 c C) rfl ?_
  refine gx_iconst (pc := 9) hB dX0_isRefunded_9 1 (by decide) ?_
  refine gx_icmp_ne (pc := 10) hB 17 dX0_isRefunded_10 (by decide) (fun c_1 => ?_) (fun c_1 => ?_)
  · refine gx_iconst (pc := 17) hB dX0_isRefunded_17 0 (by decide) ?_
    have e1 : bI (bRefunded C x) = 0 := by simp [bRefunded, bI, eq_false c_1]
    exact gx_zret (pc := 18) hC dX0_isRefunded_18 (Nat.zero_le _) (Nat.zero_le _) (by decide) (⟨by rw [e1], rfl⟩)
  · refine gx_iconst (pc := 13) hB dX0_isRefunded_13 1 (by decide) ?_
    refine gx_goto (pc := 14) hB 18 dX0_isRefunded_14 (by decide) ?_
    have e1 : bI (bRefunded C x) = 1 := by simp [bRefunded, bI, c_1]
    exact gx_zret (pc := 18) hC dX0_isRefunded_18 (Nat.zero_le _) (Nat.zero_le _) (by decide) (⟨by rw [e1], rfl⟩)
theorem pX0_isSpan : (parseMethodDescriptor yX0_isSpan.desc).map (fun d => d.parameters.length) = some 1 := by decide +kernel
theorem mX0_isSpan : gx_MS yX0_isSpan cX0_isSpan 1 (some .boolean) := ⟨tb_282, tb_69, tb_283, by decide, by decide⟩
set_option maxHeartbeats 4000000 in
set_option maxRecDepth 100000 in
theorem c_X0_isSpan (l : Launch) (K : gx_K) (x : Int32)  : gx_Ctr l K yX0_isSpan cX0_isSpan 1 (some .boolean) (rmm 2 22) [.int x] [] (gx_D (some (.int (bI (bSpan x)))) []) := by
  refine gx_of (by decide) (Nat.le_of_ble_eq_true rfl) (fun G hC => ?_)
  have hB := hC.b
  refine gx_lv (lv' := [(0, .int x)]) rfl ?_
  refine gx_iload_n (pc := 0) hB dX0_isSpan_0 0 rfl ?_
  refine gx_iconst (pc := 1) hB dX0_isSpan_1 1 (by decide) ?_
  refine gx_bipush (pc := 2) hB dX0_isSpan_2 60 (by decide) ?_
  refine gx_w0 (pc := 4) (r := bI (bIn x 1 60)) hB (c_X4_within l K x 1 60 ) mX4_within dX0_isSpan_4 ⟨Nat.le_of_ble_eq_true rfl, Nat.le_of_ble_eq_true rfl⟩ ⟨rfl, rfl⟩ ⟨Nat.zero_le _, Nat.zero_le _⟩ (Nat.le_of_ble_eq_true rfl) [] rfl (by decide) ?_
  have e1 : bI (bSpan x) = bI (bIn x 1 60) := by simp [bSpan]
  exact gx_zret (pc := 7) hC dX0_isSpan_7 (Nat.zero_le _) (Nat.zero_le _) (bI_01 _) (⟨by rw [e1], rfl⟩)
theorem pX0_addPledge : (parseMethodDescriptor yX0_addPledge.desc).map (fun d => d.parameters.length) = some 4 := by decide +kernel
theorem mX0_addPledge : gx_M yX0_addPledge cX0_addPledge 6 (some .int) := ⟨tb_278, tb_279, tb_69, tb_280, by decide, by decide⟩
set_option maxHeartbeats 4000000 in
set_option maxRecDepth 100000 in
theorem c_X0_addPledge (l : Launch) (K : gx_K) (h t1 t2 t3 t4 c : Nat) (C : Nat → Int32) (x y z u : Int32)  : gx_Ctr l K yX0_addPledge cX0_addPledge 6 (some .int) (rmm 3 43) [.ref h, .int x, .int y, .int z, .int u] (wB K h t1 t2 t3 t4 c C) (gx_D (some (.int ((bPledge C x y z u).1))) (wB K h t1 t2 t3 t4 c ((bPledge C x y z u).2))) := by
  refine gx_of (by decide) (Nat.le_of_ble_eq_true rfl) (fun G hC => ?_)
  have hB := hC.b
  refine gx_lv (lv' := [(0, .ref h), (1, .int x), (2, .int y), (3, .int z), (4, .int u)]) rfl ?_
  refine gx_aload_n (pc := 0) hB dX0_addPledge_0 0 rfl ?_
  refine gx_get (pc := 1) hB dX0_addPledge_1 inX0 rfl 0 rfl 2 (by decide) tb_128 rfl rfl ?_
  refine gx_iload_n (pc := 4) hB dX0_addPledge_4 1 rfl ?_
  refine gx_dVi (pc := 5) (r := bI (tHas C 76 x)) (wr := [(h, .inr (0, [.ref c, .ref t1, .ref t2, .ref t3, .ref t4])), (t1, .inr (3, [.ref c, .int (nI 3), .int (nI 6), .int (nI 12)])), (t3, .inr (3, [.ref c, .int (nI 133), .int (nI 24), .int (nI 7)])), (t4, .inr (3, [.ref c, .int (nI 302), .int (nI 6), .int (nI 8)]))]) hB (c_X3_has l K t2 c 76 8 7 C x (by first | decide | (unfold tHb; decide))) mX3_has dX0_addPledge_5 tb_238 pX3_has ⟨Nat.le_of_ble_eq_true rfl, Nat.le_of_ble_eq_true rfl⟩ ⟨rfl, rfl⟩ ⟨Nat.zero_le _, Nat.zero_le _⟩ rfl (Nat.le_of_ble_eq_true rfl) [2, 5] [0, 1, 3, 4] rfl rfl (by decide) (by decide) (by decide) rfl rfl [0, 1, 4, 2, 3, 5] (by decide) (wB K h t1 t2 t3 t4 c C) rfl ?_
  refine gx_if_eq_b (pc := 8) hB 41 dX0_addPledge_8 (by decide) (fun c_1 => ?_) (fun c_1 => ?_)
  · refine gx_iconst (pc := 41) hB dX0_addPledge_41 (-1) (by decide) ?_
    have e1 : (bPledge C x y z u).1 = (-1) := by simp [bPledge, c_1]
    have f0 : (bPledge C x y z u).2 = C := by simp [bPledge, c_1]
    exact gx_iret (pc := 42) hC dX0_addPledge_42 (Nat.zero_le _) (Nat.zero_le _) (⟨by rw [e1], by rw [f0]⟩)
  · refine gx_aload_n (pc := 11) hB dX0_addPledge_11 0 rfl ?_
    refine gx_get (pc := 12) hB dX0_addPledge_12 inX0 rfl 0 rfl 1 (by decide) tb_127 rfl rfl ?_
    refine gx_iload_n (pc := 15) hB dX0_addPledge_15 2 rfl ?_
    refine gx_dVi (pc := 16) (r := bI (tHas C 3 y)) (wr := [(h, .inr (0, [.ref c, .ref t1, .ref t2, .ref t3, .ref t4])), (t2, .inr (3, [.ref c, .int (nI 76), .int (nI 8), .int (nI 7)])), (t3, .inr (3, [.ref c, .int (nI 133), .int (nI 24), .int (nI 7)])), (t4, .inr (3, [.ref c, .int (nI 302), .int (nI 6), .int (nI 8)]))]) hB (c_X3_has l K t1 c 3 6 12 C y (by first | decide | (unfold tHb; decide))) mX3_has dX0_addPledge_16 tb_238 pX3_has ⟨Nat.le_of_ble_eq_true rfl, Nat.le_of_ble_eq_true rfl⟩ ⟨rfl, rfl⟩ ⟨Nat.zero_le _, Nat.zero_le _⟩ rfl (Nat.le_of_ble_eq_true rfl) [1, 5] [0, 2, 3, 4] rfl rfl (by decide) (by decide) (by decide) rfl rfl [0, 4, 1, 2, 3, 5] (by decide) (wB K h t1 t2 t3 t4 c C) rfl ?_
    refine gx_if_eq_b (pc := 19) hB 41 dX0_addPledge_19 (by decide) (fun c_2 => ?_) (fun c_2 => ?_)
    · refine gx_iconst (pc := 41) hB dX0_addPledge_41 (-1) (by decide) ?_
      have e1 : (bPledge C x y z u).1 = (-1) := by simp [bPledge, c_1, c_2]
      have f0 : (bPledge C x y z u).2 = C := by simp [bPledge, c_1, c_2]
      exact gx_iret (pc := 42) hC dX0_addPledge_42 (Nat.zero_le _) (Nat.zero_le _) (⟨by rw [e1], by rw [f0]⟩)
    · refine gx_iload_n (pc := 22) hB dX0_addPledge_22 3 rfl ?_
      refine gx_iconst (pc := 23) hB dX0_addPledge_23 1 (by decide) ?_
      refine gx_sipush (pc := 24) hB dX0_addPledge_24 999 (by decide) ?_
      refine gx_w0 (pc := 27) (r := bI (bIn z 1 999)) hB (c_X4_within l K z 1 999 ) mX4_within dX0_addPledge_27 ⟨Nat.le_of_ble_eq_true rfl, Nat.le_of_ble_eq_true rfl⟩ ⟨rfl, rfl⟩ ⟨Nat.zero_le _, Nat.zero_le _⟩ (Nat.le_of_ble_eq_true rfl) [0, 1, 2, 3, 4, 5] rfl (by decide) ?_
      refine gx_if_eq_b (pc := 30) hB 41 dX0_addPledge_30 (by decide) (fun c_3 => ?_) (fun c_3 => ?_)
      · refine gx_iconst (pc := 41) hB dX0_addPledge_41 (-1) (by decide) ?_
        have e1 : (bPledge C x y z u).1 = (-1) := by simp [bPledge, c_1, c_2, c_3]
        have f0 : (bPledge C x y z u).2 = C := by simp [bPledge, c_1, c_2, c_3]
        exact gx_iret (pc := 42) hC dX0_addPledge_42 (Nat.zero_le _) (Nat.zero_le _) (⟨by rw [e1], by rw [f0]⟩)
      · refine gx_iload (pc := 33) hB dX0_addPledge_33 4 rfl ?_
        refine gx_dSi (pc := 35) (r := bI (bSpan u)) (wr := [(h, .inr (0, [.ref c, .ref t1, .ref t2, .ref t3, .ref t4])), (t1, .inr (3, [.ref c, .int (nI 3), .int (nI 6), .int (nI 12)])), (t2, .inr (3, [.ref c, .int (nI 76), .int (nI 8), .int (nI 7)])), (t3, .inr (3, [.ref c, .int (nI 133), .int (nI 24), .int (nI 7)])), (t4, .inr (3, [.ref c, .int (nI 302), .int (nI 6), .int (nI 8)])), (c, .inl (K.2.1.2.1, 351, .inl C))]) hB (c_X0_isSpan l K u ) mX0_isSpan dX0_addPledge_35 tb_281 pX0_isSpan ⟨Nat.le_of_ble_eq_true rfl, Nat.le_of_ble_eq_true rfl⟩ ⟨rfl, rfl⟩ ⟨Nat.zero_le _, Nat.zero_le _⟩ rfl (Nat.le_of_ble_eq_true rfl) [] [0, 1, 2, 3, 4, 5] rfl rfl (by decide) (by decide) (by decide) [0, 1, 2, 3, 4, 5] (by decide) (wB K h t1 t2 t3 t4 c C) rfl ?_
        refine gx_if_ne_b (pc := 38) hB 43 dX0_addPledge_38 (by decide) (fun c_4 => ?_) (fun c_4 => ?_)
        · refine gx_aload_n (pc := 43) hB dX0_addPledge_43 0 rfl ?_
          refine gx_iload_n (pc := 44) hB dX0_addPledge_44 2 rfl ?_
          refine gx_dVi (pc := 45) (r := bI (bClosed C y)) (wr := []) hB (c_X0_isClosed l K h t1 t2 t3 t4 c C y ) mX0_isClosed dX0_addPledge_45 tb_257 pX0_isClosed ⟨Nat.le_of_ble_eq_true rfl, Nat.le_of_ble_eq_true rfl⟩ ⟨rfl, rfl⟩ ⟨Nat.zero_le _, Nat.zero_le _⟩ rfl (Nat.le_of_ble_eq_true rfl) [0, 1, 2, 3, 4, 5] [] rfl rfl (by decide) (by decide) (by decide) rfl rfl [0, 1, 2, 3, 4, 5] (by decide) (wB K h t1 t2 t3 t4 c C) rfl ?_
          refine gx_if_eq_b (pc := 48) hB 54 dX0_addPledge_48 (by decide) (fun c_5 => ?_) (fun c_5 => ?_)
          · refine gx_aload_n (pc := 54) hB dX0_addPledge_54 0 rfl ?_
            refine gx_get (pc := 55) hB dX0_addPledge_55 inX0 rfl 0 rfl 4 (by decide) tb_130 rfl rfl ?_
            refine gx_dVi (pc := 58) (r := tNew C 302 6) (wr := [(h, .inr (0, [.ref c, .ref t1, .ref t2, .ref t3, .ref t4])), (t1, .inr (3, [.ref c, .int (nI 3), .int (nI 6), .int (nI 12)])), (t2, .inr (3, [.ref c, .int (nI 76), .int (nI 8), .int (nI 7)])), (t3, .inr (3, [.ref c, .int (nI 133), .int (nI 24), .int (nI 7)]))]) hB (c_X3_addRow l K t4 c 302 6 8 C (by first | decide | (unfold tHb; decide))) mX3_addRow dX0_addPledge_58 tb_118 pX3_addRow ⟨Nat.le_of_ble_eq_true rfl, Nat.le_of_ble_eq_true rfl⟩ ⟨rfl, rfl⟩ ⟨Nat.zero_le _, Nat.zero_le _⟩ rfl (Nat.le_of_ble_eq_true rfl) [4, 5] [0, 1, 2, 3] rfl rfl (by decide) (by decide) (by decide) rfl rfl [0, 1, 2, 3, 4, 5] (by decide) (wB K h t1 t2 t3 t4 c (tNewC C 302 6)) rfl ?_
            refine gx_istore (pc := 61) hB dX0_addPledge_61 (by decide) [(5, .int (tNew C 302 6)), (0, .ref h), (1, .int x), (2, .int y), (3, .int z), (4, .int u)] rfl ?_
            refine gx_iload (pc := 63) hB dX0_addPledge_63 0 rfl ?_
            refine gx_iconst (pc := 65) hB dX0_addPledge_65 (-1) (by decide) ?_
            refine gx_icmp_ne (pc := 66) hB 72 dX0_addPledge_66 (by decide) (fun c_6 => ?_) (fun c_6 => ?_)
            · refine gx_aload_n (pc := 72) hB dX0_addPledge_72 1 rfl ?_
              refine gx_get (pc := 73) hB dX0_addPledge_73 inX0 rfl 0 rfl 4 (by decide) tb_130 rfl rfl ?_
              refine gx_iload (pc := 76) hB dX0_addPledge_76 0 rfl ?_
              refine gx_iconst (pc := 78) hB dX0_addPledge_78 0 (by decide) ?_
              refine gx_iload_n (pc := 79) hB dX0_addPledge_79 2 rfl ?_
              refine gx_dVv (pc := 80) (wr := [(h, .inr (0, [.ref c, .ref t1, .ref t2, .ref t3, .ref t4])), (t1, .inr (3, [.ref c, .int (nI 3), .int (nI 6), .int (nI 12)])), (t2, .inr (3, [.ref c, .int (nI 76), .int (nI 8), .int (nI 7)])), (t3, .inr (3, [.ref c, .int (nI 133), .int (nI 24), .int (nI 7)]))]) hB (c_X3_put l K t4 c 302 6 8 (tNewC C 302 6) (tNew C 302 6) 0 x (by first | decide | (unfold tHb; decide))) mX3_put dX0_addPledge_80 tb_122 pX3_put ⟨Nat.le_of_ble_eq_true rfl, Nat.le_of_ble_eq_true rfl⟩ ⟨rfl, rfl⟩ ⟨Nat.zero_le _, Nat.zero_le _⟩ rfl (Nat.le_of_ble_eq_true rfl) [4, 5] [0, 1, 2, 3] rfl rfl (by decide) (by decide) (by decide) rfl rfl [0, 1, 2, 3, 4, 5] (by decide) (wB K h t1 t2 t3 t4 c (kPut (tNewC C 302 6) (tNew C 302 6) 0 x)) rfl ?_
              refine gx_aload_n (pc := 83) hB dX0_addPledge_83 1 rfl ?_
              refine gx_get (pc := 84) hB dX0_addPledge_84 inX0 rfl 0 rfl 4 (by decide) tb_130 rfl rfl ?_
              refine gx_iload (pc := 87) hB dX0_addPledge_87 0 rfl ?_
              refine gx_iconst (pc := 89) hB dX0_addPledge_89 1 (by decide) ?_
              refine gx_iload_n (pc := 90) hB dX0_addPledge_90 3 rfl ?_
              refine gx_dVv (pc := 91) (wr := [(h, .inr (0, [.ref c, .ref t1, .ref t2, .ref t3, .ref t4])), (t1, .inr (3, [.ref c, .int (nI 3), .int (nI 6), .int (nI 12)])), (t2, .inr (3, [.ref c, .int (nI 76), .int (nI 8), .int (nI 7)])), (t3, .inr (3, [.ref c, .int (nI 133), .int (nI 24), .int (nI 7)]))]) hB (c_X3_put l K t4 c 302 6 8 (kPut (tNewC C 302 6) (tNew C 302 6) 0 x) (tNew C 302 6) 1 y (by first | decide | (unfold tHb; decide))) mX3_put dX0_addPledge_91 tb_122 pX3_put ⟨Nat.le_of_ble_eq_true rfl, Nat.le_of_ble_eq_true rfl⟩ ⟨rfl, rfl⟩ ⟨Nat.zero_le _, Nat.zero_le _⟩ rfl (Nat.le_of_ble_eq_true rfl) [4, 5] [0, 1, 2, 3] rfl rfl (by decide) (by decide) (by decide) rfl rfl [0, 1, 2, 3, 4, 5] (by decide) (wB K h t1 t2 t3 t4 c (kPut (kPut (tNewC C 302 6) (tNew C 302 6) 0 x) (tNew C 302 6) 1 y)) rfl ?_
              refine gx_aload_n (pc := 94) hB dX0_addPledge_94 1 rfl ?_
              refine gx_get (pc := 95) hB dX0_addPledge_95 inX0 rfl 0 rfl 4 (by decide) tb_130 rfl rfl ?_
              refine gx_iload (pc := 98) hB dX0_addPledge_98 0 rfl ?_
              refine gx_iconst (pc := 100) hB dX0_addPledge_100 2 (by decide) ?_
              refine gx_iload_n (pc := 101) hB dX0_addPledge_101 4 rfl ?_
              refine gx_dVv (pc := 102) (wr := [(h, .inr (0, [.ref c, .ref t1, .ref t2, .ref t3, .ref t4])), (t1, .inr (3, [.ref c, .int (nI 3), .int (nI 6), .int (nI 12)])), (t2, .inr (3, [.ref c, .int (nI 76), .int (nI 8), .int (nI 7)])), (t3, .inr (3, [.ref c, .int (nI 133), .int (nI 24), .int (nI 7)]))]) hB (c_X3_put l K t4 c 302 6 8 (kPut (kPut (tNewC C 302 6) (tNew C 302 6) 0 x) (tNew C 302 6) 1 y) (tNew C 302 6) 2 z (by first | decide | (unfold tHb; decide))) mX3_put dX0_addPledge_102 tb_122 pX3_put ⟨Nat.le_of_ble_eq_true rfl, Nat.le_of_ble_eq_true rfl⟩ ⟨rfl, rfl⟩ ⟨Nat.zero_le _, Nat.zero_le _⟩ rfl (Nat.le_of_ble_eq_true rfl) [4, 5] [0, 1, 2, 3] rfl rfl (by decide) (by decide) (by decide) rfl rfl [0, 1, 2, 3, 4, 5] (by decide) (wB K h t1 t2 t3 t4 c (kPut (kPut (kPut (tNewC C 302 6) (tNew C 302 6) 0 x) (tNew C 302 6) 1 y) (tNew C 302 6) 2 z)) rfl ?_
              refine gx_aload_n (pc := 105) hB dX0_addPledge_105 1 rfl ?_
              refine gx_get (pc := 106) hB dX0_addPledge_106 inX0 rfl 0 rfl 4 (by decide) tb_130 rfl rfl ?_
              refine gx_iload (pc := 109) hB dX0_addPledge_109 0 rfl ?_
              refine gx_iconst (pc := 111) hB dX0_addPledge_111 3 (by decide) ?_
              refine gx_iload (pc := 112) hB dX0_addPledge_112 5 rfl ?_
              refine gx_dVv (pc := 114) (wr := [(h, .inr (0, [.ref c, .ref t1, .ref t2, .ref t3, .ref t4])), (t1, .inr (3, [.ref c, .int (nI 3), .int (nI 6), .int (nI 12)])), (t2, .inr (3, [.ref c, .int (nI 76), .int (nI 8), .int (nI 7)])), (t3, .inr (3, [.ref c, .int (nI 133), .int (nI 24), .int (nI 7)]))]) hB (c_X3_put l K t4 c 302 6 8 (kPut (kPut (kPut (tNewC C 302 6) (tNew C 302 6) 0 x) (tNew C 302 6) 1 y) (tNew C 302 6) 2 z) (tNew C 302 6) 3 u (by first | decide | (unfold tHb; decide))) mX3_put dX0_addPledge_114 tb_122 pX3_put ⟨Nat.le_of_ble_eq_true rfl, Nat.le_of_ble_eq_true rfl⟩ ⟨rfl, rfl⟩ ⟨Nat.zero_le _, Nat.zero_le _⟩ rfl (Nat.le_of_ble_eq_true rfl) [4, 5] [0, 1, 2, 3] rfl rfl (by decide) (by decide) (by decide) rfl rfl [0, 1, 2, 3, 4, 5] (by decide) (wB K h t1 t2 t3 t4 c (kPut (kPut (kPut (kPut (tNewC C 302 6) (tNew C 302 6) 0 x) (tNew C 302 6) 1 y) (tNew C 302 6) 2 z) (tNew C 302 6) 3 u)) rfl ?_
              refine gx_iload (pc := 117) hB dX0_addPledge_117 0 rfl ?_
              have e1 : (bPledge C x y z u).1 = tNew C 302 6 := by simp [bPledge, c_1, c_2, c_3, c_4, c_5, eq_false c_6]
              have f0 : (bPledge C x y z u).2 = kPut (kPut (kPut (kPut (tNewC C 302 6) (tNew C 302 6) 0 x) (tNew C 302 6) 1 y) (tNew C 302 6) 2 z) (tNew C 302 6) 3 u := by simp [bPledge, c_1, c_2, c_3, c_4, c_5, eq_false c_6]
              exact gx_iret (pc := 119) hC dX0_addPledge_119 (Nat.zero_le _) (Nat.zero_le _) (⟨by rw [e1], by rw [f0]⟩)
            · refine gx_bipush (pc := 69) hB dX0_addPledge_69 (-3) (by decide) ?_
              have e1 : (bPledge C x y z u).1 = (-3) := by simp [bPledge, c_1, c_2, c_3, c_4, c_5, c_6]
              have f0 : (bPledge C x y z u).2 = tNewC C 302 6 := by simp [bPledge, c_1, c_2, c_3, c_4, c_5, c_6]
              exact gx_iret (pc := 71) hC dX0_addPledge_71 (Nat.zero_le _) (Nat.zero_le _) (⟨by rw [e1], by rw [f0]⟩)
          · refine gx_bipush (pc := 51) hB dX0_addPledge_51 (-2) (by decide) ?_
            have e1 : (bPledge C x y z u).1 = (-2) := by simp [bPledge, c_1, c_2, c_3, c_4, c_5]
            have f0 : (bPledge C x y z u).2 = C := by simp [bPledge, c_1, c_2, c_3, c_4, c_5]
            exact gx_iret (pc := 53) hC dX0_addPledge_53 (Nat.zero_le _) (Nat.zero_le _) (⟨by rw [e1], by rw [f0]⟩)
        · refine gx_iconst (pc := 41) hB dX0_addPledge_41 (-1) (by decide) ?_
          have e1 : (bPledge C x y z u).1 = (-1) := by simp [bPledge, c_1, c_2, c_3, c_4]
          have f0 : (bPledge C x y z u).2 = C := by simp [bPledge, c_1, c_2, c_3, c_4]
          exact gx_iret (pc := 42) hC dX0_addPledge_42 (Nat.zero_le _) (Nat.zero_le _) (⟨by rw [e1], by rw [f0]⟩)
theorem pX0_isRunning : (parseMethodDescriptor yX0_isRunning.desc).map (fun d => d.parameters.length) = some 1 := by decide +kernel
theorem mX0_isRunning : gx_M yX0_isRunning cX0_isRunning 2 (some .boolean) := ⟨tb_294, tb_1, tb_69, tb_295, by decide, by decide⟩
set_option maxHeartbeats 4000000 in
set_option maxRecDepth 100000 in
theorem c_X0_isRunning (l : Launch) (K : gx_K) (h t1 t2 t3 t4 c : Nat) (C : Nat → Int32) (x : Int32)  : gx_Ctr l K yX0_isRunning cX0_isRunning 2 (some .boolean) (rmm 2 22) [.ref h, .int x] (wB K h t1 t2 t3 t4 c C) (gx_D (some (.int (bI (bRunning C x)))) (wB K h t1 t2 t3 t4 c C)) := by
  refine gx_of (by decide) (Nat.le_of_ble_eq_true rfl) (fun G hC => ?_)
  have hB := hC.b
  refine gx_lv (lv' := [(0, .ref h), (1, .int x)]) rfl ?_
  refine gx_aload_n (pc := 0) hB dX0_isRunning_0 0 rfl ?_
  refine gx_get (pc := 1) hB dX0_isRunning_1 inX0 rfl 0 rfl 4 (by decide) tb_130 rfl rfl ?_
  refine gx_iload_n (pc := 4) hB dX0_isRunning_4 1 rfl ?_
  refine gx_iconst (pc := 5) hB dX0_isRunning_5 5 (by decide) ?_
  refine gx_dVi (pc := 6) (r := kAt C x 5) (wr := [(h, .inr (0, [.ref c, .ref t1, .ref t2, .ref t3, .ref t4])), (t1, .inr (3, [.ref c, .int (nI 3), .int (nI 6), .int (nI 12)])), (t2, .inr (3, [.ref c, .int (nI 76), .int (nI 8), .int (nI 7)])), (t3, .inr (3, [.ref c, .int (nI 133), .int (nI 24), .int (nI 7)]))]) hB (c_X3_at l K t4 c 302 6 8 C x 5 (by first | decide | (unfold tHb; decide))) mX3_at dX0_isRunning_6 tb_245 pX3_at ⟨Nat.le_of_ble_eq_true rfl, Nat.le_of_ble_eq_true rfl⟩ ⟨rfl, rfl⟩ ⟨Nat.zero_le _, Nat.zero_le _⟩ rfl (Nat.le_of_ble_eq_true rfl) [4, 5] [0, 1, 2, 3] rfl rfl (by decide) (by decide) (by decide) rfl rfl [0, 1, 2, 3, 4, 5] (by decide) (wB K h t1 t2 t3 t4 c C) rfl ?_
  refine gx_if_ne (pc := 9) hB 16 dX0_isRunning_9 (by decide) (fun c_1 => ?_) (fun c_1 => ?_)
  · refine gx_iconst (pc := 16) hB dX0_isRunning_16 0 (by decide) ?_
    have e1 : bI (bRunning C x) = 0 := by simp [bRunning, bI, eq_false c_1]
    exact gx_zret (pc := 17) hC dX0_isRunning_17 (Nat.zero_le _) (Nat.zero_le _) (by decide) (⟨by rw [e1], rfl⟩)
  · refine gx_iconst (pc := 12) hB dX0_isRunning_12 1 (by decide) ?_
    refine gx_goto (pc := 13) hB 17 dX0_isRunning_13 (by decide) ?_
    have e1 : bI (bRunning C x) = 1 := by simp [bRunning, bI, c_1]
    exact gx_zret (pc := 17) hC dX0_isRunning_17 (Nat.zero_le _) (Nat.zero_le _) (by decide) (⟨by rw [e1], rfl⟩)
theorem pX0_tellMiss : (parseMethodDescriptor yX0_tellMiss.desc).map (fun d => d.parameters.length) = some 1 := by decide +kernel
theorem mX0_tellMiss : gx_M yX0_tellMiss cX0_tellMiss 2 (some .int) := ⟨tb_289, tb_290, tb_69, tb_291, by decide, by decide⟩
set_option maxHeartbeats 4000000 in
set_option maxRecDepth 100000 in
theorem c_X0_tellMiss (l : Launch) (K : gx_K) (h t1 t2 t3 t4 c : Nat) (C : Nat → Int32) (x : Int32)  : gx_Ctr l K yX0_tellMiss cX0_tellMiss 2 (some .int) (rmm 3 43) [.ref h, .int x] (wB K h t1 t2 t3 t4 c C) (gx_D (some (.int ((bMiss C x).1))) (wB K h t1 t2 t3 t4 c ((bMiss C x).2))) := by
  refine gx_of (by decide) (Nat.le_of_ble_eq_true rfl) (fun G hC => ?_)
  have hB := hC.b
  refine gx_lv (lv' := [(0, .ref h), (1, .int x)]) rfl ?_
  refine gx_aload_n (pc := 0) hB dX0_tellMiss_0 0 rfl ?_
  refine gx_get (pc := 1) hB dX0_tellMiss_1 inX0 rfl 0 rfl 4 (by decide) tb_130 rfl rfl ?_
  refine gx_iload_n (pc := 4) hB dX0_tellMiss_4 1 rfl ?_
  refine gx_dVi (pc := 5) (r := bI (tHas C 302 x)) (wr := [(h, .inr (0, [.ref c, .ref t1, .ref t2, .ref t3, .ref t4])), (t1, .inr (3, [.ref c, .int (nI 3), .int (nI 6), .int (nI 12)])), (t2, .inr (3, [.ref c, .int (nI 76), .int (nI 8), .int (nI 7)])), (t3, .inr (3, [.ref c, .int (nI 133), .int (nI 24), .int (nI 7)]))]) hB (c_X3_has l K t4 c 302 6 8 C x (by first | decide | (unfold tHb; decide))) mX3_has dX0_tellMiss_5 tb_238 pX3_has ⟨Nat.le_of_ble_eq_true rfl, Nat.le_of_ble_eq_true rfl⟩ ⟨rfl, rfl⟩ ⟨Nat.zero_le _, Nat.zero_le _⟩ rfl (Nat.le_of_ble_eq_true rfl) [4, 5] [0, 1, 2, 3] rfl rfl (by decide) (by decide) (by decide) rfl rfl [0, 1, 2, 3, 4, 5] (by decide) (wB K h t1 t2 t3 t4 c C) rfl ?_
  refine gx_if_ne_b (pc := 8) hB 13 dX0_tellMiss_8 (by decide) (fun c_1 => ?_) (fun c_1 => ?_)
  · refine gx_aload_n (pc := 13) hB dX0_tellMiss_13 0 rfl ?_
    refine gx_iload_n (pc := 14) hB dX0_tellMiss_14 1 rfl ?_
    refine gx_dVi (pc := 15) (r := bI (bRunning C x)) (wr := []) hB (c_X0_isRunning l K h t1 t2 t3 t4 c C x ) mX0_isRunning dX0_tellMiss_15 tb_292 pX0_isRunning ⟨Nat.le_of_ble_eq_true rfl, Nat.le_of_ble_eq_true rfl⟩ ⟨rfl, rfl⟩ ⟨Nat.zero_le _, Nat.zero_le _⟩ rfl (Nat.le_of_ble_eq_true rfl) [0, 1, 2, 3, 4, 5] [] rfl rfl (by decide) (by decide) (by decide) rfl rfl [0, 1, 2, 3, 4, 5] (by decide) (wB K h t1 t2 t3 t4 c C) rfl ?_
    refine gx_if_eq_b (pc := 18) hB 35 dX0_tellMiss_18 (by decide) (fun c_2 => ?_) (fun c_2 => ?_)
    · refine gx_bipush (pc := 35) hB dX0_tellMiss_35 (-2) (by decide) ?_
      have e1 : (bMiss C x).1 = (-2) := by simp [bMiss, c_1, c_2]
      have f0 : (bMiss C x).2 = C := by simp [bMiss, c_1, c_2]
      exact gx_iret (pc := 37) hC dX0_tellMiss_37 (Nat.zero_le _) (Nat.zero_le _) (⟨by rw [e1], by rw [f0]⟩)
    · refine gx_aload_n (pc := 21) hB dX0_tellMiss_21 0 rfl ?_
      refine gx_get (pc := 22) hB dX0_tellMiss_22 inX0 rfl 0 rfl 4 (by decide) tb_130 rfl rfl ?_
      refine gx_iload_n (pc := 25) hB dX0_tellMiss_25 1 rfl ?_
      refine gx_bipush (pc := 26) hB dX0_tellMiss_26 7 (by decide) ?_
      refine gx_dVi (pc := 28) (r := kAt C x 7) (wr := [(h, .inr (0, [.ref c, .ref t1, .ref t2, .ref t3, .ref t4])), (t1, .inr (3, [.ref c, .int (nI 3), .int (nI 6), .int (nI 12)])), (t2, .inr (3, [.ref c, .int (nI 76), .int (nI 8), .int (nI 7)])), (t3, .inr (3, [.ref c, .int (nI 133), .int (nI 24), .int (nI 7)]))]) hB (c_X3_at l K t4 c 302 6 8 C x 7 (by first | decide | (unfold tHb; decide))) mX3_at dX0_tellMiss_28 tb_245 pX3_at ⟨Nat.le_of_ble_eq_true rfl, Nat.le_of_ble_eq_true rfl⟩ ⟨rfl, rfl⟩ ⟨Nat.zero_le _, Nat.zero_le _⟩ rfl (Nat.le_of_ble_eq_true rfl) [4, 5] [0, 1, 2, 3] rfl rfl (by decide) (by decide) (by decide) rfl rfl [0, 1, 2, 3, 4, 5] (by decide) (wB K h t1 t2 t3 t4 c C) rfl ?_
      refine gx_iconst (pc := 31) hB dX0_tellMiss_31 1 (by decide) ?_
      refine gx_icmp_ne (pc := 32) hB 38 dX0_tellMiss_32 (by decide) (fun c_3 => ?_) (fun c_3 => ?_)
      · refine gx_aload_n (pc := 38) hB dX0_tellMiss_38 0 rfl ?_
        refine gx_get (pc := 39) hB dX0_tellMiss_39 inX0 rfl 0 rfl 4 (by decide) tb_130 rfl rfl ?_
        refine gx_iload_n (pc := 42) hB dX0_tellMiss_42 1 rfl ?_
        refine gx_bipush (pc := 43) hB dX0_tellMiss_43 7 (by decide) ?_
        refine gx_iconst (pc := 45) hB dX0_tellMiss_45 1 (by decide) ?_
        refine gx_dVv (pc := 46) (wr := [(h, .inr (0, [.ref c, .ref t1, .ref t2, .ref t3, .ref t4])), (t1, .inr (3, [.ref c, .int (nI 3), .int (nI 6), .int (nI 12)])), (t2, .inr (3, [.ref c, .int (nI 76), .int (nI 8), .int (nI 7)])), (t3, .inr (3, [.ref c, .int (nI 133), .int (nI 24), .int (nI 7)]))]) hB (c_X3_put l K t4 c 302 6 8 C x 7 1 (by first | decide | (unfold tHb; decide))) mX3_put dX0_tellMiss_46 tb_122 pX3_put ⟨Nat.le_of_ble_eq_true rfl, Nat.le_of_ble_eq_true rfl⟩ ⟨rfl, rfl⟩ ⟨Nat.zero_le _, Nat.zero_le _⟩ rfl (Nat.le_of_ble_eq_true rfl) [4, 5] [0, 1, 2, 3] rfl rfl (by decide) (by decide) (by decide) rfl rfl [0, 1, 2, 3, 4, 5] (by decide) (wB K h t1 t2 t3 t4 c (kPut C x 7 1)) rfl ?_
        refine gx_aload_n (pc := 49) hB dX0_tellMiss_49 0 rfl ?_
        refine gx_get (pc := 50) hB dX0_tellMiss_50 inX0 rfl 0 rfl 4 (by decide) tb_130 rfl rfl ?_
        refine gx_iload_n (pc := 53) hB dX0_tellMiss_53 1 rfl ?_
        refine gx_iconst (pc := 54) hB dX0_tellMiss_54 4 (by decide) ?_
        refine gx_dVi (pc := 55) (r := kAt (kPut C x 7 1) x 4) (wr := [(h, .inr (0, [.ref c, .ref t1, .ref t2, .ref t3, .ref t4])), (t1, .inr (3, [.ref c, .int (nI 3), .int (nI 6), .int (nI 12)])), (t2, .inr (3, [.ref c, .int (nI 76), .int (nI 8), .int (nI 7)])), (t3, .inr (3, [.ref c, .int (nI 133), .int (nI 24), .int (nI 7)]))]) hB (c_X3_at l K t4 c 302 6 8 (kPut C x 7 1) x 4 (by first | decide | (unfold tHb; decide))) mX3_at dX0_tellMiss_55 tb_245 pX3_at ⟨Nat.le_of_ble_eq_true rfl, Nat.le_of_ble_eq_true rfl⟩ ⟨rfl, rfl⟩ ⟨Nat.zero_le _, Nat.zero_le _⟩ rfl (Nat.le_of_ble_eq_true rfl) [4, 5] [0, 1, 2, 3] rfl rfl (by decide) (by decide) (by decide) rfl rfl [0, 1, 2, 3, 4, 5] (by decide) (wB K h t1 t2 t3 t4 c (kPut C x 7 1)) rfl ?_
        have e1 : (bMiss C x).1 = kAt (kPut C x 7 1) x 4 := by simp [bMiss, c_1, c_2, eq_false c_3]
        have f0 : (bMiss C x).2 = kPut C x 7 1 := by simp [bMiss, c_1, c_2, eq_false c_3]
        exact gx_iret (pc := 58) hC dX0_tellMiss_58 (Nat.zero_le _) (Nat.zero_le _) (⟨by rw [e1], by rw [f0]⟩)
      · refine gx_bipush (pc := 35) hB dX0_tellMiss_35 (-2) (by decide) ?_
        have e1 : (bMiss C x).1 = (-2) := by simp [bMiss, c_1, c_2, c_3]
        have f0 : (bMiss C x).2 = C := by simp [bMiss, c_1, c_2, c_3]
        exact gx_iret (pc := 37) hC dX0_tellMiss_37 (Nat.zero_le _) (Nat.zero_le _) (⟨by rw [e1], by rw [f0]⟩)
  · refine gx_iconst (pc := 11) hB dX0_tellMiss_11 (-1) (by decide) ?_
    have e1 : (bMiss C x).1 = (-1) := by simp [bMiss, c_1]
    have f0 : (bMiss C x).2 = C := by simp [bMiss, c_1]
    exact gx_iret (pc := 12) hC dX0_tellMiss_12 (Nat.zero_le _) (Nat.zero_le _) (⟨by rw [e1], by rw [f0]⟩)
theorem pX0_haltPledge : (parseMethodDescriptor yX0_haltPledge.desc).map (fun d => d.parameters.length) = some 1 := by decide +kernel
theorem mX0_haltPledge : gx_M yX0_haltPledge cX0_haltPledge 2 none := ⟨tb_306, tb_2, tb_69, tb_307, by decide, by decide⟩
set_option maxHeartbeats 4000000 in
set_option maxRecDepth 100000 in
theorem c_X0_haltPledge (l : Launch) (K : gx_K) (h t1 t2 t3 t4 c : Nat) (C : Nat → Int32) (x : Int32)  : gx_Ctr l K yX0_haltPledge cX0_haltPledge 2 none (rmm 2 23) [.ref h, .int x] (wB K h t1 t2 t3 t4 c C) (gx_D none (wB K h t1 t2 t3 t4 c (bHalt C x))) := by
  refine gx_of (by decide) (Nat.le_of_ble_eq_true rfl) (fun G hC => ?_)
  have hB := hC.b
  refine gx_lv (lv' := [(0, .ref h), (1, .int x)]) rfl ?_
  refine gx_aload_n (pc := 0) hB dX0_haltPledge_0 0 rfl ?_
  refine gx_get (pc := 1) hB dX0_haltPledge_1 inX0 rfl 0 rfl 4 (by decide) tb_130 rfl rfl ?_
  refine gx_iload_n (pc := 4) hB dX0_haltPledge_4 1 rfl ?_
  refine gx_iconst (pc := 5) hB dX0_haltPledge_5 5 (by decide) ?_
  refine gx_iconst (pc := 6) hB dX0_haltPledge_6 2 (by decide) ?_
  refine gx_dVv (pc := 7) (wr := [(h, .inr (0, [.ref c, .ref t1, .ref t2, .ref t3, .ref t4])), (t1, .inr (3, [.ref c, .int (nI 3), .int (nI 6), .int (nI 12)])), (t2, .inr (3, [.ref c, .int (nI 76), .int (nI 8), .int (nI 7)])), (t3, .inr (3, [.ref c, .int (nI 133), .int (nI 24), .int (nI 7)]))]) hB (c_X3_put l K t4 c 302 6 8 C x 5 2 (by first | decide | (unfold tHb; decide))) mX3_put dX0_haltPledge_7 tb_122 pX3_put ⟨Nat.le_of_ble_eq_true rfl, Nat.le_of_ble_eq_true rfl⟩ ⟨rfl, rfl⟩ ⟨Nat.zero_le _, Nat.zero_le _⟩ rfl (Nat.le_of_ble_eq_true rfl) [4, 5] [0, 1, 2, 3] rfl rfl (by decide) (by decide) (by decide) rfl rfl [0, 1, 2, 3, 4, 5] (by decide) (wB K h t1 t2 t3 t4 c (kPut C x 5 2)) rfl ?_
  refine gx_aload_n (pc := 10) hB dX0_haltPledge_10 0 rfl ?_
  refine gx_get (pc := 11) hB dX0_haltPledge_11 inX0 rfl 0 rfl 4 (by decide) tb_130 rfl rfl ?_
  refine gx_iload_n (pc := 14) hB dX0_haltPledge_14 1 rfl ?_
  refine gx_bipush (pc := 15) hB dX0_haltPledge_15 7 (by decide) ?_
  refine gx_iconst (pc := 17) hB dX0_haltPledge_17 0 (by decide) ?_
  refine gx_dVv (pc := 18) (wr := [(h, .inr (0, [.ref c, .ref t1, .ref t2, .ref t3, .ref t4])), (t1, .inr (3, [.ref c, .int (nI 3), .int (nI 6), .int (nI 12)])), (t2, .inr (3, [.ref c, .int (nI 76), .int (nI 8), .int (nI 7)])), (t3, .inr (3, [.ref c, .int (nI 133), .int (nI 24), .int (nI 7)]))]) hB (c_X3_put l K t4 c 302 6 8 (kPut C x 5 2) x 7 0 (by first | decide | (unfold tHb; decide))) mX3_put dX0_haltPledge_18 tb_122 pX3_put ⟨Nat.le_of_ble_eq_true rfl, Nat.le_of_ble_eq_true rfl⟩ ⟨rfl, rfl⟩ ⟨Nat.zero_le _, Nat.zero_le _⟩ rfl (Nat.le_of_ble_eq_true rfl) [4, 5] [0, 1, 2, 3] rfl rfl (by decide) (by decide) (by decide) rfl rfl [0, 1, 2, 3, 4, 5] (by decide) (wB K h t1 t2 t3 t4 c (kPut (kPut C x 5 2) x 7 0)) rfl ?_
  have f0 : bHalt C x = kPut (kPut C x 5 2) x 7 0 := by simp [bHalt]
  exact gx_vret (pc := 21) hC dX0_haltPledge_21 (Nat.zero_le _) (Nat.zero_le _) (⟨rfl, by rw [f0]⟩)
theorem pX0_stopPledge : (parseMethodDescriptor yX0_stopPledge.desc).map (fun d => d.parameters.length) = some 1 := by decide +kernel
theorem mX0_stopPledge : gx_M yX0_stopPledge cX0_stopPledge 2 (some .int) := ⟨tb_301, tb_302, tb_69, tb_303, by decide, by decide⟩
set_option maxHeartbeats 4000000 in
set_option maxRecDepth 100000 in
theorem c_X0_stopPledge (l : Launch) (K : gx_K) (h t1 t2 t3 t4 c : Nat) (C : Nat → Int32) (x : Int32)  : gx_Ctr l K yX0_stopPledge cX0_stopPledge 2 (some .int) (rmm 3 44) [.ref h, .int x] (wB K h t1 t2 t3 t4 c C) (gx_D (some (.int ((bStop C x).1))) (wB K h t1 t2 t3 t4 c ((bStop C x).2))) := by
  refine gx_of (by decide) (Nat.le_of_ble_eq_true rfl) (fun G hC => ?_)
  have hB := hC.b
  refine gx_lv (lv' := [(0, .ref h), (1, .int x)]) rfl ?_
  refine gx_aload_n (pc := 0) hB dX0_stopPledge_0 0 rfl ?_
  refine gx_get (pc := 1) hB dX0_stopPledge_1 inX0 rfl 0 rfl 4 (by decide) tb_130 rfl rfl ?_
  refine gx_iload_n (pc := 4) hB dX0_stopPledge_4 1 rfl ?_
  refine gx_dVi (pc := 5) (r := bI (tHas C 302 x)) (wr := [(h, .inr (0, [.ref c, .ref t1, .ref t2, .ref t3, .ref t4])), (t1, .inr (3, [.ref c, .int (nI 3), .int (nI 6), .int (nI 12)])), (t2, .inr (3, [.ref c, .int (nI 76), .int (nI 8), .int (nI 7)])), (t3, .inr (3, [.ref c, .int (nI 133), .int (nI 24), .int (nI 7)]))]) hB (c_X3_has l K t4 c 302 6 8 C x (by first | decide | (unfold tHb; decide))) mX3_has dX0_stopPledge_5 tb_238 pX3_has ⟨Nat.le_of_ble_eq_true rfl, Nat.le_of_ble_eq_true rfl⟩ ⟨rfl, rfl⟩ ⟨Nat.zero_le _, Nat.zero_le _⟩ rfl (Nat.le_of_ble_eq_true rfl) [4, 5] [0, 1, 2, 3] rfl rfl (by decide) (by decide) (by decide) rfl rfl [0, 1, 2, 3, 4, 5] (by decide) (wB K h t1 t2 t3 t4 c C) rfl ?_
  refine gx_if_ne_b (pc := 8) hB 13 dX0_stopPledge_8 (by decide) (fun c_1 => ?_) (fun c_1 => ?_)
  · refine gx_aload_n (pc := 13) hB dX0_stopPledge_13 0 rfl ?_
    refine gx_iload_n (pc := 14) hB dX0_stopPledge_14 1 rfl ?_
    refine gx_dVi (pc := 15) (r := bI (bRunning C x)) (wr := []) hB (c_X0_isRunning l K h t1 t2 t3 t4 c C x ) mX0_isRunning dX0_stopPledge_15 tb_292 pX0_isRunning ⟨Nat.le_of_ble_eq_true rfl, Nat.le_of_ble_eq_true rfl⟩ ⟨rfl, rfl⟩ ⟨Nat.zero_le _, Nat.zero_le _⟩ rfl (Nat.le_of_ble_eq_true rfl) [0, 1, 2, 3, 4, 5] [] rfl rfl (by decide) (by decide) (by decide) rfl rfl [0, 1, 2, 3, 4, 5] (by decide) (wB K h t1 t2 t3 t4 c C) rfl ?_
    refine gx_if_ne_b (pc := 18) hB 24 dX0_stopPledge_18 (by decide) (fun c_2 => ?_) (fun c_2 => ?_)
    · refine gx_aload_n (pc := 24) hB dX0_stopPledge_24 0 rfl ?_
      refine gx_iload_n (pc := 25) hB dX0_stopPledge_25 1 rfl ?_
      refine gx_dVv (pc := 26) (wr := []) hB (c_X0_haltPledge l K h t1 t2 t3 t4 c C x ) mX0_haltPledge dX0_stopPledge_26 tb_304 pX0_haltPledge ⟨Nat.le_of_ble_eq_true rfl, Nat.le_of_ble_eq_true rfl⟩ ⟨rfl, rfl⟩ ⟨Nat.zero_le _, Nat.zero_le _⟩ rfl (Nat.le_of_ble_eq_true rfl) [0, 1, 2, 3, 4, 5] [] rfl rfl (by decide) (by decide) (by decide) rfl rfl [0, 1, 2, 3, 4, 5] (by decide) (wB K h t1 t2 t3 t4 c (bHalt C x)) rfl ?_
      refine gx_aload_n (pc := 29) hB dX0_stopPledge_29 0 rfl ?_
      refine gx_get (pc := 30) hB dX0_stopPledge_30 inX0 rfl 0 rfl 4 (by decide) tb_130 rfl rfl ?_
      refine gx_iload_n (pc := 33) hB dX0_stopPledge_33 1 rfl ?_
      refine gx_iconst (pc := 34) hB dX0_stopPledge_34 3 (by decide) ?_
      refine gx_dVi (pc := 35) (r := kAt (bHalt C x) x 3) (wr := [(h, .inr (0, [.ref c, .ref t1, .ref t2, .ref t3, .ref t4])), (t1, .inr (3, [.ref c, .int (nI 3), .int (nI 6), .int (nI 12)])), (t2, .inr (3, [.ref c, .int (nI 76), .int (nI 8), .int (nI 7)])), (t3, .inr (3, [.ref c, .int (nI 133), .int (nI 24), .int (nI 7)]))]) hB (c_X3_at l K t4 c 302 6 8 (bHalt C x) x 3 (by first | decide | (unfold tHb; decide))) mX3_at dX0_stopPledge_35 tb_245 pX3_at ⟨Nat.le_of_ble_eq_true rfl, Nat.le_of_ble_eq_true rfl⟩ ⟨rfl, rfl⟩ ⟨Nat.zero_le _, Nat.zero_le _⟩ rfl (Nat.le_of_ble_eq_true rfl) [4, 5] [0, 1, 2, 3] rfl rfl (by decide) (by decide) (by decide) rfl rfl [0, 1, 2, 3, 4, 5] (by decide) (wB K h t1 t2 t3 t4 c (bHalt C x)) rfl ?_
      have e1 : (bStop C x).1 = kAt (bHalt C x) x 3 := by simp [bStop, c_1, c_2]
      have f0 : (bStop C x).2 = bHalt C x := by simp [bStop, c_1, c_2]
      exact gx_iret (pc := 38) hC dX0_stopPledge_38 (Nat.zero_le _) (Nat.zero_le _) (⟨by rw [e1], by rw [f0]⟩)
    · refine gx_bipush (pc := 21) hB dX0_stopPledge_21 (-2) (by decide) ?_
      have e1 : (bStop C x).1 = (-2) := by simp [bStop, c_1, c_2]
      have f0 : (bStop C x).2 = C := by simp [bStop, c_1, c_2]
      exact gx_iret (pc := 23) hC dX0_stopPledge_23 (Nat.zero_le _) (Nat.zero_le _) (⟨by rw [e1], by rw [f0]⟩)
  · refine gx_iconst (pc := 11) hB dX0_stopPledge_11 (-1) (by decide) ?_
    have e1 : (bStop C x).1 = (-1) := by simp [bStop, c_1]
    have f0 : (bStop C x).2 = C := by simp [bStop, c_1]
    exact gx_iret (pc := 12) hC dX0_stopPledge_12 (Nat.zero_le _) (Nat.zero_le _) (⟨by rw [e1], by rw [f0]⟩)
theorem pX0_runPledge : (parseMethodDescriptor yX0_runPledge.desc).map (fun d => d.parameters.length) = some 1 := by decide +kernel
theorem mX0_runPledge : gx_M yX0_runPledge cX0_runPledge 5 none := ⟨tb_441, tb_21, tb_69, tb_442, by decide, by decide⟩
set_option maxHeartbeats 4000000 in
set_option maxRecDepth 100000 in
theorem c_X0_runPledge (l : Launch) (K : gx_K) (h t1 t2 t3 t4 c : Nat) (C : Nat → Int32) (x : Int32)  : gx_Ctr l K yX0_runPledge cX0_runPledge 5 none (rmm 3 48) [.ref h, .int x] (wB K h t1 t2 t3 t4 c C) (gx_D none (wB K h t1 t2 t3 t4 c (bRun C x))) := by
  refine gx_of (by decide) (Nat.le_of_ble_eq_true rfl) (fun G hC => ?_)
  have hB := hC.b
  refine gx_lv (lv' := [(0, .ref h), (1, .int x)]) rfl ?_
  refine gx_aload_n (pc := 0) hB dX0_runPledge_0 0 rfl ?_
  refine gx_get (pc := 1) hB dX0_runPledge_1 inX0 rfl 0 rfl 4 (by decide) tb_130 rfl rfl ?_
  refine gx_iload_n (pc := 4) hB dX0_runPledge_4 1 rfl ?_
  refine gx_iconst (pc := 5) hB dX0_runPledge_5 3 (by decide) ?_
  refine gx_iconst (pc := 6) hB dX0_runPledge_6 (-1) (by decide) ?_
  refine gx_dVv (pc := 7) (wr := [(h, .inr (0, [.ref c, .ref t1, .ref t2, .ref t3, .ref t4])), (t1, .inr (3, [.ref c, .int (nI 3), .int (nI 6), .int (nI 12)])), (t2, .inr (3, [.ref c, .int (nI 76), .int (nI 8), .int (nI 7)])), (t3, .inr (3, [.ref c, .int (nI 133), .int (nI 24), .int (nI 7)]))]) hB (c_X3_add l K t4 c 302 6 8 C x 3 (-1) (by first | decide | (unfold tHb; decide))) mX3_add dX0_runPledge_7 tb_269 pX3_add ⟨Nat.le_of_ble_eq_true rfl, Nat.le_of_ble_eq_true rfl⟩ ⟨rfl, rfl⟩ ⟨Nat.zero_le _, Nat.zero_le _⟩ rfl (Nat.le_of_ble_eq_true rfl) [4, 5] [0, 1, 2, 3] rfl rfl (by decide) (by decide) (by decide) rfl rfl [0, 1, 2, 3, 4, 5] (by decide) (wB K h t1 t2 t3 t4 c (kAdd C x 3 (-1))) rfl ?_
  refine gx_aload_n (pc := 10) hB dX0_runPledge_10 0 rfl ?_
  refine gx_get (pc := 11) hB dX0_runPledge_11 inX0 rfl 0 rfl 4 (by decide) tb_130 rfl rfl ?_
  refine gx_iload_n (pc := 14) hB dX0_runPledge_14 1 rfl ?_
  refine gx_bipush (pc := 15) hB dX0_runPledge_15 7 (by decide) ?_
  refine gx_dVi (pc := 17) (r := kAt (kAdd C x 3 (-1)) x 7) (wr := [(h, .inr (0, [.ref c, .ref t1, .ref t2, .ref t3, .ref t4])), (t1, .inr (3, [.ref c, .int (nI 3), .int (nI 6), .int (nI 12)])), (t2, .inr (3, [.ref c, .int (nI 76), .int (nI 8), .int (nI 7)])), (t3, .inr (3, [.ref c, .int (nI 133), .int (nI 24), .int (nI 7)]))]) hB (c_X3_at l K t4 c 302 6 8 (kAdd C x 3 (-1)) x 7 (by first | decide | (unfold tHb; decide))) mX3_at dX0_runPledge_17 tb_245 pX3_at ⟨Nat.le_of_ble_eq_true rfl, Nat.le_of_ble_eq_true rfl⟩ ⟨rfl, rfl⟩ ⟨Nat.zero_le _, Nat.zero_le _⟩ rfl (Nat.le_of_ble_eq_true rfl) [4, 5] [0, 1, 2, 3] rfl rfl (by decide) (by decide) (by decide) rfl rfl [0, 1, 2, 3, 4, 5] (by decide) (wB K h t1 t2 t3 t4 c (kAdd C x 3 (-1))) rfl ?_
  refine gx_iconst (pc := 20) hB dX0_runPledge_20 1 (by decide) ?_
  refine gx_icmp_ne (pc := 21) hB 67 dX0_runPledge_21 (by decide) (fun c_1 => ?_) (fun c_1 => ?_)
  · refine gx_aload_n (pc := 67) hB dX0_runPledge_67 0 rfl ?_
    refine gx_get (pc := 68) hB dX0_runPledge_68 inX0 rfl 0 rfl 3 (by decide) tb_129 rfl rfl ?_
    refine gx_dVi (pc := 71) (r := bI (tFull (kAdd C x 3 (-1)) 133 24)) (wr := [(h, .inr (0, [.ref c, .ref t1, .ref t2, .ref t3, .ref t4])), (t1, .inr (3, [.ref c, .int (nI 3), .int (nI 6), .int (nI 12)])), (t2, .inr (3, [.ref c, .int (nI 76), .int (nI 8), .int (nI 7)])), (t4, .inr (3, [.ref c, .int (nI 302), .int (nI 6), .int (nI 8)]))]) hB (c_X3_isFull l K t3 c 133 24 7 (kAdd C x 3 (-1)) (by first | decide | (unfold tHb; decide))) mX3_isFull dX0_runPledge_71 tb_261 pX3_isFull ⟨Nat.le_of_ble_eq_true rfl, Nat.le_of_ble_eq_true rfl⟩ ⟨rfl, rfl⟩ ⟨Nat.zero_le _, Nat.zero_le _⟩ rfl (Nat.le_of_ble_eq_true rfl) [3, 5] [0, 1, 2, 4] rfl rfl (by decide) (by decide) (by decide) rfl rfl [0, 1, 2, 4, 3, 5] (by decide) (wB K h t1 t2 t3 t4 c (kAdd C x 3 (-1))) rfl ?_
    refine gx_istore_n (pc := 74) hB dX0_runPledge_74 (by decide) [(2, .int (bI (tFull (kAdd C x 3 (-1)) 133 24))), (0, .ref h), (1, .int x)] rfl ?_
    refine gx_iload_n (pc := 75) hB dX0_runPledge_75 0 rfl ?_
    refine gx_if_ne_b (pc := 76) hB 129 dX0_runPledge_76 (by decide) (fun c_2 => ?_) (fun c_2 => ?_)
    · refine gx_iload_n (pc := 129) hB dX0_runPledge_129 0 rfl ?_
      refine gx_if_eq_b (pc := 130) hB 146 dX0_runPledge_130 (by decide) (fun c_3 => ?_) (fun c_3 => ?_)
      · exact absurd (c_3.symm.trans c_2) (by decide)
      · refine gx_aload_n (pc := 133) hB dX0_runPledge_133 1 rfl ?_
        refine gx_get (pc := 134) hB dX0_runPledge_134 inX0 rfl 0 rfl 4 (by decide) tb_130 rfl rfl ?_
        refine gx_iload_n (pc := 137) hB dX0_runPledge_137 2 rfl ?_
        refine gx_iconst (pc := 138) hB dX0_runPledge_138 5 (by decide) ?_
        refine gx_iconst (pc := 139) hB dX0_runPledge_139 3 (by decide) ?_
        refine gx_dVv (pc := 140) (wr := [(h, .inr (0, [.ref c, .ref t1, .ref t2, .ref t3, .ref t4])), (t1, .inr (3, [.ref c, .int (nI 3), .int (nI 6), .int (nI 12)])), (t2, .inr (3, [.ref c, .int (nI 76), .int (nI 8), .int (nI 7)])), (t3, .inr (3, [.ref c, .int (nI 133), .int (nI 24), .int (nI 7)]))]) hB (c_X3_put l K t4 c 302 6 8 (kAdd C x 3 (-1)) x 5 3 (by first | decide | (unfold tHb; decide))) mX3_put dX0_runPledge_140 tb_122 pX3_put ⟨Nat.le_of_ble_eq_true rfl, Nat.le_of_ble_eq_true rfl⟩ ⟨rfl, rfl⟩ ⟨Nat.zero_le _, Nat.zero_le _⟩ rfl (Nat.le_of_ble_eq_true rfl) [4, 5] [0, 1, 2, 3] rfl rfl (by decide) (by decide) (by decide) rfl rfl [0, 1, 2, 3, 4, 5] (by decide) (wB K h t1 t2 t3 t4 c (kPut (kAdd C x 3 (-1)) x 5 3)) rfl ?_
        refine gx_goto (pc := 143) hB 168 dX0_runPledge_143 (by decide) ?_
        have f0 : bRun C x = kPut (kAdd C x 3 (-1)) x 5 3 := by simp [bRun, bRunMid, eq_false c_1, c_2, c_3]
        exact gx_vret (pc := 168) hC dX0_runPledge_168 (Nat.zero_le _) (Nat.zero_le _) (⟨rfl, by rw [f0]⟩)
    · refine gx_aload_n (pc := 79) hB dX0_runPledge_79 1 rfl ?_
      refine gx_get (pc := 80) hB dX0_runPledge_80 inX0 rfl 0 rfl 4 (by decide) tb_130 rfl rfl ?_
      refine gx_iload_n (pc := 83) hB dX0_runPledge_83 2 rfl ?_
      refine gx_iconst (pc := 84) hB dX0_runPledge_84 0 (by decide) ?_
      refine gx_dVi (pc := 85) (r := kAt (kAdd C x 3 (-1)) x 0) (wr := [(h, .inr (0, [.ref c, .ref t1, .ref t2, .ref t3, .ref t4])), (t1, .inr (3, [.ref c, .int (nI 3), .int (nI 6), .int (nI 12)])), (t2, .inr (3, [.ref c, .int (nI 76), .int (nI 8), .int (nI 7)])), (t3, .inr (3, [.ref c, .int (nI 133), .int (nI 24), .int (nI 7)]))]) hB (c_X3_at l K t4 c 302 6 8 (kAdd C x 3 (-1)) x 0 (by first | decide | (unfold tHb; decide))) mX3_at dX0_runPledge_85 tb_245 pX3_at ⟨Nat.le_of_ble_eq_true rfl, Nat.le_of_ble_eq_true rfl⟩ ⟨rfl, rfl⟩ ⟨Nat.zero_le _, Nat.zero_le _⟩ rfl (Nat.le_of_ble_eq_true rfl) [4, 5] [0, 1, 2, 3] rfl rfl (by decide) (by decide) (by decide) rfl rfl [0, 1, 2, 3, 4, 5] (by decide) (wB K h t1 t2 t3 t4 c (kAdd C x 3 (-1))) rfl ?_
      refine gx_istore_n (pc := 88) hB dX0_runPledge_88 (by decide) [(3, .int (kAt (kAdd C x 3 (-1)) x 0)), (2, .int (bI (tFull (kAdd C x 3 (-1)) 133 24))), (0, .ref h), (1, .int x)] rfl ?_
      refine gx_aload_n (pc := 89) hB dX0_runPledge_89 2 rfl ?_
      refine gx_get (pc := 90) hB dX0_runPledge_90 inX0 rfl 0 rfl 4 (by decide) tb_130 rfl rfl ?_
      refine gx_iload_n (pc := 93) hB dX0_runPledge_93 3 rfl ?_
      refine gx_iconst (pc := 94) hB dX0_runPledge_94 1 (by decide) ?_
      refine gx_dVi (pc := 95) (r := kAt (kAdd C x 3 (-1)) x 1) (wr := [(h, .inr (0, [.ref c, .ref t1, .ref t2, .ref t3, .ref t4])), (t1, .inr (3, [.ref c, .int (nI 3), .int (nI 6), .int (nI 12)])), (t2, .inr (3, [.ref c, .int (nI 76), .int (nI 8), .int (nI 7)])), (t3, .inr (3, [.ref c, .int (nI 133), .int (nI 24), .int (nI 7)]))]) hB (c_X3_at l K t4 c 302 6 8 (kAdd C x 3 (-1)) x 1 (by first | decide | (unfold tHb; decide))) mX3_at dX0_runPledge_95 tb_245 pX3_at ⟨Nat.le_of_ble_eq_true rfl, Nat.le_of_ble_eq_true rfl⟩ ⟨rfl, rfl⟩ ⟨Nat.zero_le _, Nat.zero_le _⟩ rfl (Nat.le_of_ble_eq_true rfl) [4, 5] [0, 1, 2, 3] rfl rfl (by decide) (by decide) (by decide) rfl rfl [0, 1, 2, 3, 4, 5] (by decide) (wB K h t1 t2 t3 t4 c (kAdd C x 3 (-1))) rfl ?_
      refine gx_istore (pc := 98) hB dX0_runPledge_98 (by decide) [(4, .int (kAt (kAdd C x 3 (-1)) x 1)), (3, .int (kAt (kAdd C x 3 (-1)) x 0)), (2, .int (bI (tFull (kAdd C x 3 (-1)) 133 24))), (0, .ref h), (1, .int x)] rfl ?_
      refine gx_aload_n (pc := 100) hB dX0_runPledge_100 3 rfl ?_
      refine gx_iload_n (pc := 101) hB dX0_runPledge_101 1 rfl ?_
      refine gx_iload (pc := 102) hB dX0_runPledge_102 0 rfl ?_
      refine gx_aload_n (pc := 104) hB dX0_runPledge_104 3 rfl ?_
      refine gx_get (pc := 105) hB dX0_runPledge_105 inX0 rfl 0 rfl 4 (by decide) tb_130 rfl rfl ?_
      refine gx_iload_n (pc := 108) hB dX0_runPledge_108 4 rfl ?_
      refine gx_iconst (pc := 109) hB dX0_runPledge_109 2 (by decide) ?_
      refine gx_dVi (pc := 110) (r := kAt (kAdd C x 3 (-1)) x 2) (wr := [(h, .inr (0, [.ref c, .ref t1, .ref t2, .ref t3, .ref t4])), (t1, .inr (3, [.ref c, .int (nI 3), .int (nI 6), .int (nI 12)])), (t2, .inr (3, [.ref c, .int (nI 76), .int (nI 8), .int (nI 7)])), (t3, .inr (3, [.ref c, .int (nI 133), .int (nI 24), .int (nI 7)]))]) hB (c_X3_at l K t4 c 302 6 8 (kAdd C x 3 (-1)) x 2 (by first | decide | (unfold tHb; decide))) mX3_at dX0_runPledge_110 tb_245 pX3_at ⟨Nat.le_of_ble_eq_true rfl, Nat.le_of_ble_eq_true rfl⟩ ⟨rfl, rfl⟩ ⟨Nat.zero_le _, Nat.zero_le _⟩ rfl (Nat.le_of_ble_eq_true rfl) [4, 5] [0, 1, 2, 3] rfl rfl (by decide) (by decide) (by decide) rfl rfl [0, 1, 2, 3, 4, 5] (by decide) (wB K h t1 t2 t3 t4 c (kAdd C x 3 (-1))) rfl ?_
      refine gx_iload_n (pc := 113) hB dX0_runPledge_113 4 rfl ?_
      refine gx_dVi (pc := 114) (r := (bBook (kAdd C x 3 (-1)) (kAt (kAdd C x 3 (-1)) x 0) (kAt (kAdd C x 3 (-1)) x 1) (kAt (kAdd C x 3 (-1)) x 2) x).1) (wr := []) hB (c_X0_bookGift l K h t1 t2 t3 t4 c (kAdd C x 3 (-1)) (kAt (kAdd C x 3 (-1)) x 0) (kAt (kAdd C x 3 (-1)) x 1) (kAt (kAdd C x 3 (-1)) x 2) x ) mX0_bookGift dX0_runPledge_114 tb_265 pX0_bookGift ⟨Nat.le_of_ble_eq_true rfl, Nat.le_of_ble_eq_true rfl⟩ ⟨rfl, rfl⟩ ⟨Nat.zero_le _, Nat.zero_le _⟩ rfl (Nat.le_of_ble_eq_true rfl) [0, 1, 2, 3, 4, 5] [] rfl rfl (by decide) (by decide) (by decide) rfl rfl [0, 1, 2, 3, 4, 5] (by decide) (wB K h t1 t2 t3 t4 c ((bBook (kAdd C x 3 (-1)) (kAt (kAdd C x 3 (-1)) x 0) (kAt (kAdd C x 3 (-1)) x 1) (kAt (kAdd C x 3 (-1)) x 2) x).2)) rfl ?_
      refine gx_pop (pc := 117) hB dX0_runPledge_117 rfl ?_
      refine gx_aload_n (pc := 118) hB dX0_runPledge_118 3 rfl ?_
      refine gx_get (pc := 119) hB dX0_runPledge_119 inX0 rfl 0 rfl 4 (by decide) tb_130 rfl rfl ?_
      refine gx_iload_n (pc := 122) hB dX0_runPledge_122 4 rfl ?_
      refine gx_bipush (pc := 123) hB dX0_runPledge_123 6 (by decide) ?_
      refine gx_iconst (pc := 125) hB dX0_runPledge_125 1 (by decide) ?_
      refine gx_dVv (pc := 126) (wr := [(h, .inr (0, [.ref c, .ref t1, .ref t2, .ref t3, .ref t4])), (t1, .inr (3, [.ref c, .int (nI 3), .int (nI 6), .int (nI 12)])), (t2, .inr (3, [.ref c, .int (nI 76), .int (nI 8), .int (nI 7)])), (t3, .inr (3, [.ref c, .int (nI 133), .int (nI 24), .int (nI 7)]))]) hB (c_X3_add l K t4 c 302 6 8 ((bBook (kAdd C x 3 (-1)) (kAt (kAdd C x 3 (-1)) x 0) (kAt (kAdd C x 3 (-1)) x 1) (kAt (kAdd C x 3 (-1)) x 2) x).2) x 6 1 (by first | decide | (unfold tHb; decide))) mX3_add dX0_runPledge_126 tb_269 pX3_add ⟨Nat.le_of_ble_eq_true rfl, Nat.le_of_ble_eq_true rfl⟩ ⟨rfl, rfl⟩ ⟨Nat.zero_le _, Nat.zero_le _⟩ rfl (Nat.le_of_ble_eq_true rfl) [4, 5] [0, 1, 2, 3] rfl rfl (by decide) (by decide) (by decide) rfl rfl [0, 1, 2, 3, 4, 5] (by decide) (wB K h t1 t2 t3 t4 c (kAdd ((bBook (kAdd C x 3 (-1)) (kAt (kAdd C x 3 (-1)) x 0) (kAt (kAdd C x 3 (-1)) x 1) (kAt (kAdd C x 3 (-1)) x 2) x).2) x 6 1)) rfl ?_
      refine gx_iload_n (pc := 129) hB dX0_runPledge_129 2 rfl ?_
      refine gx_if_eq_b (pc := 130) hB 146 dX0_runPledge_130 (by decide) (fun c_4 => ?_) (fun c_4 => ?_)
      · refine gx_aload_n (pc := 146) hB dX0_runPledge_146 3 rfl ?_
        refine gx_get (pc := 147) hB dX0_runPledge_147 inX0 rfl 0 rfl 4 (by decide) tb_130 rfl rfl ?_
        refine gx_iload_n (pc := 150) hB dX0_runPledge_150 4 rfl ?_
        refine gx_iconst (pc := 151) hB dX0_runPledge_151 3 (by decide) ?_
        refine gx_dVi (pc := 152) (r := kAt (kAdd ((bBook (kAdd C x 3 (-1)) (kAt (kAdd C x 3 (-1)) x 0) (kAt (kAdd C x 3 (-1)) x 1) (kAt (kAdd C x 3 (-1)) x 2) x).2) x 6 1) x 3) (wr := [(h, .inr (0, [.ref c, .ref t1, .ref t2, .ref t3, .ref t4])), (t1, .inr (3, [.ref c, .int (nI 3), .int (nI 6), .int (nI 12)])), (t2, .inr (3, [.ref c, .int (nI 76), .int (nI 8), .int (nI 7)])), (t3, .inr (3, [.ref c, .int (nI 133), .int (nI 24), .int (nI 7)]))]) hB (c_X3_at l K t4 c 302 6 8 (kAdd ((bBook (kAdd C x 3 (-1)) (kAt (kAdd C x 3 (-1)) x 0) (kAt (kAdd C x 3 (-1)) x 1) (kAt (kAdd C x 3 (-1)) x 2) x).2) x 6 1) x 3 (by first | decide | (unfold tHb; decide))) mX3_at dX0_runPledge_152 tb_245 pX3_at ⟨Nat.le_of_ble_eq_true rfl, Nat.le_of_ble_eq_true rfl⟩ ⟨rfl, rfl⟩ ⟨Nat.zero_le _, Nat.zero_le _⟩ rfl (Nat.le_of_ble_eq_true rfl) [4, 5] [0, 1, 2, 3] rfl rfl (by decide) (by decide) (by decide) rfl rfl [0, 1, 2, 3, 4, 5] (by decide) (wB K h t1 t2 t3 t4 c (kAdd ((bBook (kAdd C x 3 (-1)) (kAt (kAdd C x 3 (-1)) x 0) (kAt (kAdd C x 3 (-1)) x 1) (kAt (kAdd C x 3 (-1)) x 2) x).2) x 6 1)) rfl ?_
        refine gx_if_ne (pc := 155) hB 168 dX0_runPledge_155 (by decide) (fun c_5 => ?_) (fun c_5 => ?_)
        · have f0 : bRun C x = kAdd ((bBook (kAdd C x 3 (-1)) (kAt (kAdd C x 3 (-1)) x 0) (kAt (kAdd C x 3 (-1)) x 1) (kAt (kAdd C x 3 (-1)) x 2) x).2) x 6 1 := by simp [bRun, bRunMid, eq_false c_1, c_2, c_4, eq_false c_5]
          exact gx_vret (pc := 168) hC dX0_runPledge_168 (Nat.zero_le _) (Nat.zero_le _) (⟨rfl, by rw [f0]⟩)
        · refine gx_aload_n (pc := 158) hB dX0_runPledge_158 3 rfl ?_
          refine gx_get (pc := 159) hB dX0_runPledge_159 inX0 rfl 0 rfl 4 (by decide) tb_130 rfl rfl ?_
          refine gx_iload_n (pc := 162) hB dX0_runPledge_162 4 rfl ?_
          refine gx_iconst (pc := 163) hB dX0_runPledge_163 5 (by decide) ?_
          refine gx_iconst (pc := 164) hB dX0_runPledge_164 1 (by decide) ?_
          refine gx_dVv (pc := 165) (wr := [(h, .inr (0, [.ref c, .ref t1, .ref t2, .ref t3, .ref t4])), (t1, .inr (3, [.ref c, .int (nI 3), .int (nI 6), .int (nI 12)])), (t2, .inr (3, [.ref c, .int (nI 76), .int (nI 8), .int (nI 7)])), (t3, .inr (3, [.ref c, .int (nI 133), .int (nI 24), .int (nI 7)]))]) hB (c_X3_put l K t4 c 302 6 8 (kAdd ((bBook (kAdd C x 3 (-1)) (kAt (kAdd C x 3 (-1)) x 0) (kAt (kAdd C x 3 (-1)) x 1) (kAt (kAdd C x 3 (-1)) x 2) x).2) x 6 1) x 5 1 (by first | decide | (unfold tHb; decide))) mX3_put dX0_runPledge_165 tb_122 pX3_put ⟨Nat.le_of_ble_eq_true rfl, Nat.le_of_ble_eq_true rfl⟩ ⟨rfl, rfl⟩ ⟨Nat.zero_le _, Nat.zero_le _⟩ rfl (Nat.le_of_ble_eq_true rfl) [4, 5] [0, 1, 2, 3] rfl rfl (by decide) (by decide) (by decide) rfl rfl [0, 1, 2, 3, 4, 5] (by decide) (wB K h t1 t2 t3 t4 c (kPut (kAdd ((bBook (kAdd C x 3 (-1)) (kAt (kAdd C x 3 (-1)) x 0) (kAt (kAdd C x 3 (-1)) x 1) (kAt (kAdd C x 3 (-1)) x 2) x).2) x 6 1) x 5 1)) rfl ?_
          have f0 : bRun C x = kPut (kAdd ((bBook (kAdd C x 3 (-1)) (kAt (kAdd C x 3 (-1)) x 0) (kAt (kAdd C x 3 (-1)) x 1) (kAt (kAdd C x 3 (-1)) x 2) x).2) x 6 1) x 5 1 := by simp [bRun, bRunMid, eq_false c_1, c_2, c_4, c_5]
          exact gx_vret (pc := 168) hC dX0_runPledge_168 (Nat.zero_le _) (Nat.zero_le _) (⟨rfl, by rw [f0]⟩)
      · exact absurd (c_4.symm.trans c_2) (by decide)
  · refine gx_aload_n (pc := 24) hB dX0_runPledge_24 0 rfl ?_
    refine gx_get (pc := 25) hB dX0_runPledge_25 inX0 rfl 0 rfl 4 (by decide) tb_130 rfl rfl ?_
    refine gx_iload_n (pc := 28) hB dX0_runPledge_28 1 rfl ?_
    refine gx_bipush (pc := 29) hB dX0_runPledge_29 7 (by decide) ?_
    refine gx_iconst (pc := 31) hB dX0_runPledge_31 0 (by decide) ?_
    refine gx_dVv (pc := 32) (wr := [(h, .inr (0, [.ref c, .ref t1, .ref t2, .ref t3, .ref t4])), (t1, .inr (3, [.ref c, .int (nI 3), .int (nI 6), .int (nI 12)])), (t2, .inr (3, [.ref c, .int (nI 76), .int (nI 8), .int (nI 7)])), (t3, .inr (3, [.ref c, .int (nI 133), .int (nI 24), .int (nI 7)]))]) hB (c_X3_put l K t4 c 302 6 8 (kAdd C x 3 (-1)) x 7 0 (by first | decide | (unfold tHb; decide))) mX3_put dX0_runPledge_32 tb_122 pX3_put ⟨Nat.le_of_ble_eq_true rfl, Nat.le_of_ble_eq_true rfl⟩ ⟨rfl, rfl⟩ ⟨Nat.zero_le _, Nat.zero_le _⟩ rfl (Nat.le_of_ble_eq_true rfl) [4, 5] [0, 1, 2, 3] rfl rfl (by decide) (by decide) (by decide) rfl rfl [0, 1, 2, 3, 4, 5] (by decide) (wB K h t1 t2 t3 t4 c (kPut (kAdd C x 3 (-1)) x 7 0)) rfl ?_
    refine gx_aload_n (pc := 35) hB dX0_runPledge_35 0 rfl ?_
    refine gx_get (pc := 36) hB dX0_runPledge_36 inX0 rfl 0 rfl 4 (by decide) tb_130 rfl rfl ?_
    refine gx_iload_n (pc := 39) hB dX0_runPledge_39 1 rfl ?_
    refine gx_iconst (pc := 40) hB dX0_runPledge_40 4 (by decide) ?_
    refine gx_iconst (pc := 41) hB dX0_runPledge_41 1 (by decide) ?_
    refine gx_dVv (pc := 42) (wr := [(h, .inr (0, [.ref c, .ref t1, .ref t2, .ref t3, .ref t4])), (t1, .inr (3, [.ref c, .int (nI 3), .int (nI 6), .int (nI 12)])), (t2, .inr (3, [.ref c, .int (nI 76), .int (nI 8), .int (nI 7)])), (t3, .inr (3, [.ref c, .int (nI 133), .int (nI 24), .int (nI 7)]))]) hB (c_X3_add l K t4 c 302 6 8 (kPut (kAdd C x 3 (-1)) x 7 0) x 4 1 (by first | decide | (unfold tHb; decide))) mX3_add dX0_runPledge_42 tb_269 pX3_add ⟨Nat.le_of_ble_eq_true rfl, Nat.le_of_ble_eq_true rfl⟩ ⟨rfl, rfl⟩ ⟨Nat.zero_le _, Nat.zero_le _⟩ rfl (Nat.le_of_ble_eq_true rfl) [4, 5] [0, 1, 2, 3] rfl rfl (by decide) (by decide) (by decide) rfl rfl [0, 1, 2, 3, 4, 5] (by decide) (wB K h t1 t2 t3 t4 c (kAdd (kPut (kAdd C x 3 (-1)) x 7 0) x 4 1)) rfl ?_
    refine gx_aload_n (pc := 45) hB dX0_runPledge_45 0 rfl ?_
    refine gx_get (pc := 46) hB dX0_runPledge_46 inX0 rfl 0 rfl 4 (by decide) tb_130 rfl rfl ?_
    refine gx_iload_n (pc := 49) hB dX0_runPledge_49 1 rfl ?_
    refine gx_iconst (pc := 50) hB dX0_runPledge_50 4 (by decide) ?_
    refine gx_dVi (pc := 51) (r := kAt (kAdd (kPut (kAdd C x 3 (-1)) x 7 0) x 4 1) x 4) (wr := [(h, .inr (0, [.ref c, .ref t1, .ref t2, .ref t3, .ref t4])), (t1, .inr (3, [.ref c, .int (nI 3), .int (nI 6), .int (nI 12)])), (t2, .inr (3, [.ref c, .int (nI 76), .int (nI 8), .int (nI 7)])), (t3, .inr (3, [.ref c, .int (nI 133), .int (nI 24), .int (nI 7)]))]) hB (c_X3_at l K t4 c 302 6 8 (kAdd (kPut (kAdd C x 3 (-1)) x 7 0) x 4 1) x 4 (by first | decide | (unfold tHb; decide))) mX3_at dX0_runPledge_51 tb_245 pX3_at ⟨Nat.le_of_ble_eq_true rfl, Nat.le_of_ble_eq_true rfl⟩ ⟨rfl, rfl⟩ ⟨Nat.zero_le _, Nat.zero_le _⟩ rfl (Nat.le_of_ble_eq_true rfl) [4, 5] [0, 1, 2, 3] rfl rfl (by decide) (by decide) (by decide) rfl rfl [0, 1, 2, 3, 4, 5] (by decide) (wB K h t1 t2 t3 t4 c (kAdd (kPut (kAdd C x 3 (-1)) x 7 0) x 4 1)) rfl ?_
    refine gx_iconst (pc := 54) hB dX0_runPledge_54 3 (by decide) ?_
    refine gx_icmp_lt (pc := 55) hB 62 dX0_runPledge_55 (by decide) (fun c_6 => ?_) (fun c_6 => ?_)
    · refine gx_iconst (pc := 62) hB dX0_runPledge_62 0 (by decide) ?_
      refine gx_istore_n (pc := 63) hB dX0_runPledge_63 (by decide) [(2, .int 0), (0, .ref h), (1, .int x)] rfl ?_
      refine gx_goto (pc := 64) hB 129 dX0_runPledge_64 (by decide) ?_
      refine gx_iload_n (pc := 129) hB dX0_runPledge_129 0 rfl ?_
      refine gx_if_eq (pc := 130) hB 146 dX0_runPledge_130 (by decide) (fun c_7 => ?_) (fun c_7 => ?_)
      · refine gx_aload_n (pc := 146) hB dX0_runPledge_146 1 rfl ?_
        refine gx_get (pc := 147) hB dX0_runPledge_147 inX0 rfl 0 rfl 4 (by decide) tb_130 rfl rfl ?_
        refine gx_iload_n (pc := 150) hB dX0_runPledge_150 2 rfl ?_
        refine gx_iconst (pc := 151) hB dX0_runPledge_151 3 (by decide) ?_
        refine gx_dVi (pc := 152) (r := kAt (kAdd (kPut (kAdd C x 3 (-1)) x 7 0) x 4 1) x 3) (wr := [(h, .inr (0, [.ref c, .ref t1, .ref t2, .ref t3, .ref t4])), (t1, .inr (3, [.ref c, .int (nI 3), .int (nI 6), .int (nI 12)])), (t2, .inr (3, [.ref c, .int (nI 76), .int (nI 8), .int (nI 7)])), (t3, .inr (3, [.ref c, .int (nI 133), .int (nI 24), .int (nI 7)]))]) hB (c_X3_at l K t4 c 302 6 8 (kAdd (kPut (kAdd C x 3 (-1)) x 7 0) x 4 1) x 3 (by first | decide | (unfold tHb; decide))) mX3_at dX0_runPledge_152 tb_245 pX3_at ⟨Nat.le_of_ble_eq_true rfl, Nat.le_of_ble_eq_true rfl⟩ ⟨rfl, rfl⟩ ⟨Nat.zero_le _, Nat.zero_le _⟩ rfl (Nat.le_of_ble_eq_true rfl) [4, 5] [0, 1, 2, 3] rfl rfl (by decide) (by decide) (by decide) rfl rfl [0, 1, 2, 3, 4, 5] (by decide) (wB K h t1 t2 t3 t4 c (kAdd (kPut (kAdd C x 3 (-1)) x 7 0) x 4 1)) rfl ?_
        refine gx_if_ne (pc := 155) hB 168 dX0_runPledge_155 (by decide) (fun c_8 => ?_) (fun c_8 => ?_)
        · have f0 : bRun C x = kAdd (kPut (kAdd C x 3 (-1)) x 7 0) x 4 1 := by simp [bRun, bRunMid, c_1, c_6, eq_false (Int32.not_le.mpr c_6), eq_false c_8]
          exact gx_vret (pc := 168) hC dX0_runPledge_168 (Nat.zero_le _) (Nat.zero_le _) (⟨rfl, by rw [f0]⟩)
        · refine gx_aload_n (pc := 158) hB dX0_runPledge_158 1 rfl ?_
          refine gx_get (pc := 159) hB dX0_runPledge_159 inX0 rfl 0 rfl 4 (by decide) tb_130 rfl rfl ?_
          refine gx_iload_n (pc := 162) hB dX0_runPledge_162 2 rfl ?_
          refine gx_iconst (pc := 163) hB dX0_runPledge_163 5 (by decide) ?_
          refine gx_iconst (pc := 164) hB dX0_runPledge_164 1 (by decide) ?_
          refine gx_dVv (pc := 165) (wr := [(h, .inr (0, [.ref c, .ref t1, .ref t2, .ref t3, .ref t4])), (t1, .inr (3, [.ref c, .int (nI 3), .int (nI 6), .int (nI 12)])), (t2, .inr (3, [.ref c, .int (nI 76), .int (nI 8), .int (nI 7)])), (t3, .inr (3, [.ref c, .int (nI 133), .int (nI 24), .int (nI 7)]))]) hB (c_X3_put l K t4 c 302 6 8 (kAdd (kPut (kAdd C x 3 (-1)) x 7 0) x 4 1) x 5 1 (by first | decide | (unfold tHb; decide))) mX3_put dX0_runPledge_165 tb_122 pX3_put ⟨Nat.le_of_ble_eq_true rfl, Nat.le_of_ble_eq_true rfl⟩ ⟨rfl, rfl⟩ ⟨Nat.zero_le _, Nat.zero_le _⟩ rfl (Nat.le_of_ble_eq_true rfl) [4, 5] [0, 1, 2, 3] rfl rfl (by decide) (by decide) (by decide) rfl rfl [0, 1, 2, 3, 4, 5] (by decide) (wB K h t1 t2 t3 t4 c (kPut (kAdd (kPut (kAdd C x 3 (-1)) x 7 0) x 4 1) x 5 1)) rfl ?_
          have f0 : bRun C x = kPut (kAdd (kPut (kAdd C x 3 (-1)) x 7 0) x 4 1) x 5 1 := by simp [bRun, bRunMid, c_1, c_6, eq_false (Int32.not_le.mpr c_6), c_8]
          exact gx_vret (pc := 168) hC dX0_runPledge_168 (Nat.zero_le _) (Nat.zero_le _) (⟨rfl, by rw [f0]⟩)
      · exact absurd c_7 (by decide)
    · refine gx_iconst (pc := 58) hB dX0_runPledge_58 1 (by decide) ?_
      refine gx_goto (pc := 59) hB 63 dX0_runPledge_59 (by decide) ?_
      refine gx_istore_n (pc := 63) hB dX0_runPledge_63 (by decide) [(2, .int 1), (0, .ref h), (1, .int x)] rfl ?_
      refine gx_goto (pc := 64) hB 129 dX0_runPledge_64 (by decide) ?_
      refine gx_iload_n (pc := 129) hB dX0_runPledge_129 0 rfl ?_
      refine gx_if_eq (pc := 130) hB 146 dX0_runPledge_130 (by decide) (fun c_9 => ?_) (fun c_9 => ?_)
      · exact absurd c_9 (by decide)
      · refine gx_aload_n (pc := 133) hB dX0_runPledge_133 1 rfl ?_
        refine gx_get (pc := 134) hB dX0_runPledge_134 inX0 rfl 0 rfl 4 (by decide) tb_130 rfl rfl ?_
        refine gx_iload_n (pc := 137) hB dX0_runPledge_137 2 rfl ?_
        refine gx_iconst (pc := 138) hB dX0_runPledge_138 5 (by decide) ?_
        refine gx_iconst (pc := 139) hB dX0_runPledge_139 3 (by decide) ?_
        refine gx_dVv (pc := 140) (wr := [(h, .inr (0, [.ref c, .ref t1, .ref t2, .ref t3, .ref t4])), (t1, .inr (3, [.ref c, .int (nI 3), .int (nI 6), .int (nI 12)])), (t2, .inr (3, [.ref c, .int (nI 76), .int (nI 8), .int (nI 7)])), (t3, .inr (3, [.ref c, .int (nI 133), .int (nI 24), .int (nI 7)]))]) hB (c_X3_put l K t4 c 302 6 8 (kAdd (kPut (kAdd C x 3 (-1)) x 7 0) x 4 1) x 5 3 (by first | decide | (unfold tHb; decide))) mX3_put dX0_runPledge_140 tb_122 pX3_put ⟨Nat.le_of_ble_eq_true rfl, Nat.le_of_ble_eq_true rfl⟩ ⟨rfl, rfl⟩ ⟨Nat.zero_le _, Nat.zero_le _⟩ rfl (Nat.le_of_ble_eq_true rfl) [4, 5] [0, 1, 2, 3] rfl rfl (by decide) (by decide) (by decide) rfl rfl [0, 1, 2, 3, 4, 5] (by decide) (wB K h t1 t2 t3 t4 c (kPut (kAdd (kPut (kAdd C x 3 (-1)) x 7 0) x 4 1) x 5 3)) rfl ?_
        refine gx_goto (pc := 143) hB 168 dX0_runPledge_143 (by decide) ?_
        have f0 : bRun C x = kPut (kAdd (kPut (kAdd C x 3 (-1)) x 7 0) x 4 1) x 5 3 := by simp [bRun, bRunMid, c_1, c_6, eq_false c_6]
        exact gx_vret (pc := 168) hC dX0_runPledge_168 (Nat.zero_le _) (Nat.zero_le _) (⟨rfl, by rw [f0]⟩)
theorem pX0_claimedInYear : (parseMethodDescriptor yX0_claimedInYear.desc).map (fun d => d.parameters.length) = some 2 := by decide +kernel
theorem mX0_claimedInYear : gx_M yX0_claimedInYear cX0_claimedInYear 5 (some .int) := ⟨tb_338, tb_7, tb_69, tb_339, by decide, by decide⟩
set_option maxHeartbeats 4000000 in
set_option maxRecDepth 100000 in
theorem c_X0_claimedInYear (l : Launch) (K : gx_K) (h t1 t2 t3 t4 c : Nat) (C : Nat → Int32) (x y : Int32)  : gx_Ctr l K yX0_claimedInYear cX0_claimedInYear 5 (some .int) (rmm 2 22) [.ref h, .int x, .int y] (wB K h t1 t2 t3 t4 c C) (gx_D (some (.int (bYear C x y))) (wB K h t1 t2 t3 t4 c C)) := by
  refine gx_of (by decide) (Nat.le_of_ble_eq_true rfl) (fun G hC => ?_)
  have hB := hC.b
  refine gx_lv (lv' := [(0, .ref h), (1, .int x), (2, .int y)]) rfl ?_
  refine gx_iconst (pc := 0) hB dX0_claimedInYear_0 0 (by decide) ?_
  refine gx_istore_n (pc := 1) hB dX0_claimedInYear_1 (by decide) [(3, .int 0), (0, .ref h), (1, .int x), (2, .int y)] rfl ?_
  refine gx_iconst (pc := 2) hB dX0_claimedInYear_2 0 (by decide) ?_
  refine gx_istore (pc := 3) hB dX0_claimedInYear_3 (by decide) [(4, .int 0), (3, .int 0), (0, .ref h), (1, .int x), (2, .int y)] rfl ?_
  have loop_5 : ∀ d i : Nat, i + d = (C 133).toNatClampNeg → G 0 0 (wB K h t1 t2 t3 t4 c C) [(0, .ref h), (1, .int x), (2, .int y), (3, .int (bYearN C x y i)), (4, .int (nI i))] 5 [] := by
    intro d
    induction d with
    | zero =>
      intro i hi5
      have hN5 : (C 133).toNatClampNeg = i := by omega
      refine gx_iload (pc := 5) hB dX0_claimedInYear_5 4 rfl ?_
      refine gx_aload_n (pc := 7) hB dX0_claimedInYear_7 0 rfl ?_
      refine gx_get (pc := 8) hB dX0_claimedInYear_8 inX0 rfl 0 rfl 3 (by decide) tb_129 rfl rfl ?_
      refine gx_dVi (pc := 11) (r := C 133) (wr := [(h, .inr (0, [.ref c, .ref t1, .ref t2, .ref t3, .ref t4])), (t1, .inr (3, [.ref c, .int (nI 3), .int (nI 6), .int (nI 12)])), (t2, .inr (3, [.ref c, .int (nI 76), .int (nI 8), .int (nI 7)])), (t4, .inr (3, [.ref c, .int (nI 302), .int (nI 6), .int (nI 8)]))]) hB (c_X3_size l K t3 c 133 24 7 C (by first | decide | (unfold tHb; decide))) mX3_size dX0_claimedInYear_11 tb_316 pX3_size ⟨Nat.le_of_ble_eq_true rfl, Nat.le_of_ble_eq_true rfl⟩ ⟨rfl, rfl⟩ ⟨Nat.zero_le _, Nat.zero_le _⟩ rfl (Nat.le_of_ble_eq_true rfl) [3, 5] [0, 1, 2, 4] rfl rfl (by decide) (by decide) (by decide) rfl rfl [0, 1, 2, 4, 3, 5] (by decide) (wB K h t1 t2 t3 t4 c C) rfl ?_
      refine gx_icmp_ge (pc := 14) hB 94 dX0_claimedInYear_14 (by decide) (fun c_1 => ?_) (fun c_1 => ?_)
      · refine gx_iload_n (pc := 94) hB dX0_claimedInYear_94 3 rfl ?_
        have e1 : bYear C x y = bYearN C x y i := by simp [bYear, hN5, c_1, eq_false (Int32.not_lt.mpr c_1)]
        exact gx_iret (pc := 95) hC dX0_claimedInYear_95 (Nat.zero_le _) (Nat.zero_le _) (⟨by rw [e1], rfl⟩)
      · exact absurd (lpT (x := (C 133)) hi5) c_1
    | succ d ih5 =>
      intro i hi5
      refine gx_iload (pc := 5) hB dX0_claimedInYear_5 4 rfl ?_
      refine gx_aload_n (pc := 7) hB dX0_claimedInYear_7 0 rfl ?_
      refine gx_get (pc := 8) hB dX0_claimedInYear_8 inX0 rfl 0 rfl 3 (by decide) tb_129 rfl rfl ?_
      refine gx_dVi (pc := 11) (r := C 133) (wr := [(h, .inr (0, [.ref c, .ref t1, .ref t2, .ref t3, .ref t4])), (t1, .inr (3, [.ref c, .int (nI 3), .int (nI 6), .int (nI 12)])), (t2, .inr (3, [.ref c, .int (nI 76), .int (nI 8), .int (nI 7)])), (t4, .inr (3, [.ref c, .int (nI 302), .int (nI 6), .int (nI 8)]))]) hB (c_X3_size l K t3 c 133 24 7 C (by first | decide | (unfold tHb; decide))) mX3_size dX0_claimedInYear_11 tb_316 pX3_size ⟨Nat.le_of_ble_eq_true rfl, Nat.le_of_ble_eq_true rfl⟩ ⟨rfl, rfl⟩ ⟨Nat.zero_le _, Nat.zero_le _⟩ rfl (Nat.le_of_ble_eq_true rfl) [3, 5] [0, 1, 2, 4] rfl rfl (by decide) (by decide) (by decide) rfl rfl [0, 1, 2, 4, 3, 5] (by decide) (wB K h t1 t2 t3 t4 c C) rfl ?_
      refine gx_icmp_ge (pc := 14) hB 94 dX0_claimedInYear_14 (by decide) (fun c_2 => ?_) (fun c_2 => ?_)
      · exact absurd c_2 (lpF (x := (C 133)) hi5)
      · refine gx_aload_n (pc := 17) hB dX0_claimedInYear_17 0 rfl ?_
        refine gx_get (pc := 18) hB dX0_claimedInYear_18 inX0 rfl 0 rfl 3 (by decide) tb_129 rfl rfl ?_
        refine gx_iload (pc := 21) hB dX0_claimedInYear_21 4 rfl ?_
        refine gx_iconst (pc := 23) hB dX0_claimedInYear_23 0 (by decide) ?_
        refine gx_dVi (pc := 24) (r := gAt C (nI i) 0) (wr := [(h, .inr (0, [.ref c, .ref t1, .ref t2, .ref t3, .ref t4])), (t1, .inr (3, [.ref c, .int (nI 3), .int (nI 6), .int (nI 12)])), (t2, .inr (3, [.ref c, .int (nI 76), .int (nI 8), .int (nI 7)])), (t4, .inr (3, [.ref c, .int (nI 302), .int (nI 6), .int (nI 8)]))]) hB (c_X3_at l K t3 c 133 24 7 C (nI i) 0 (by first | decide | (unfold tHb; decide))) mX3_at dX0_claimedInYear_24 tb_245 pX3_at ⟨Nat.le_of_ble_eq_true rfl, Nat.le_of_ble_eq_true rfl⟩ ⟨rfl, rfl⟩ ⟨Nat.zero_le _, Nat.zero_le _⟩ rfl (Nat.le_of_ble_eq_true rfl) [3, 5] [0, 1, 2, 4] rfl rfl (by decide) (by decide) (by decide) rfl rfl [0, 1, 2, 4, 3, 5] (by decide) (wB K h t1 t2 t3 t4 c C) rfl ?_
        refine gx_iload_n (pc := 27) hB dX0_claimedInYear_27 1 rfl ?_
        refine gx_icmp_ne (pc := 28) hB 88 dX0_claimedInYear_28 (by decide) (fun c_3 => ?_) (fun c_3 => ?_)
        · refine gx_iinc (pc := 88) hB dX0_claimedInYear_88 4 (by decide) rfl (nI (i + 1)) (nI_1 _) [(4, .int (nI (i + 1))), (0, .ref h), (1, .int x), (2, .int y), (3, .int (bYearN C x y i))] rfl ?_
          refine gx_goto (pc := 91) hB 5 dX0_claimedInYear_91 (by decide) ?_
          have g3 : bYearN C x y i = bYearN C x y (i + 1) := by simp [bYear, bYearN, Int32.not_le.mp c_2, eq_false c_2, eq_false c_3]
          rw [g3]
          refine gx_sub hB (lv' := [(0, .ref h), (1, .int x), (2, .int y), (3, .int (bYearN C x y (i + 1))), (4, .int (nI (i + 1)))]) [1, 2, 3, 4, 0] rfl ?_
          exact ih5 (i + 1) (by omega)
        · refine gx_aload_n (pc := 31) hB dX0_claimedInYear_31 0 rfl ?_
          refine gx_get (pc := 32) hB dX0_claimedInYear_32 inX0 rfl 0 rfl 3 (by decide) tb_129 rfl rfl ?_
          refine gx_iload (pc := 35) hB dX0_claimedInYear_35 4 rfl ?_
          refine gx_iconst (pc := 37) hB dX0_claimedInYear_37 3 (by decide) ?_
          refine gx_dVi (pc := 38) (r := gAt C (nI i) 3) (wr := [(h, .inr (0, [.ref c, .ref t1, .ref t2, .ref t3, .ref t4])), (t1, .inr (3, [.ref c, .int (nI 3), .int (nI 6), .int (nI 12)])), (t2, .inr (3, [.ref c, .int (nI 76), .int (nI 8), .int (nI 7)])), (t4, .inr (3, [.ref c, .int (nI 302), .int (nI 6), .int (nI 8)]))]) hB (c_X3_at l K t3 c 133 24 7 C (nI i) 3 (by first | decide | (unfold tHb; decide))) mX3_at dX0_claimedInYear_38 tb_245 pX3_at ⟨Nat.le_of_ble_eq_true rfl, Nat.le_of_ble_eq_true rfl⟩ ⟨rfl, rfl⟩ ⟨Nat.zero_le _, Nat.zero_le _⟩ rfl (Nat.le_of_ble_eq_true rfl) [3, 5] [0, 1, 2, 4] rfl rfl (by decide) (by decide) (by decide) rfl rfl [0, 1, 2, 4, 3, 5] (by decide) (wB K h t1 t2 t3 t4 c C) rfl ?_
          refine gx_bipush (pc := 41) hB dX0_claimedInYear_41 12 (by decide) ?_
          refine gx_idiv (pc := 43) hB dX0_claimedInYear_43 (by decide) ?_
          refine gx_iload_n (pc := 44) hB dX0_claimedInYear_44 2 rfl ?_
          refine gx_icmp_ne (pc := 45) hB 88 dX0_claimedInYear_45 (by decide) (fun c_4 => ?_) (fun c_4 => ?_)
          · refine gx_iinc (pc := 88) hB dX0_claimedInYear_88 4 (by decide) rfl (nI (i + 1)) (nI_1 _) [(4, .int (nI (i + 1))), (0, .ref h), (1, .int x), (2, .int y), (3, .int (bYearN C x y i))] rfl ?_
            refine gx_goto (pc := 91) hB 5 dX0_claimedInYear_91 (by decide) ?_
            have g3 : bYearN C x y i = bYearN C x y (i + 1) := by simp [bYear, bYearN, Int32.not_le.mp c_2, eq_false c_2, c_3, eq_false c_4]
            rw [g3]
            refine gx_sub hB (lv' := [(0, .ref h), (1, .int x), (2, .int y), (3, .int (bYearN C x y (i + 1))), (4, .int (nI (i + 1)))]) [1, 2, 3, 4, 0] rfl ?_
            exact ih5 (i + 1) (by omega)
          · refine gx_aload_n (pc := 48) hB dX0_claimedInYear_48 0 rfl ?_
            refine gx_get (pc := 49) hB dX0_claimedInYear_49 inX0 rfl 0 rfl 3 (by decide) tb_129 rfl rfl ?_
            refine gx_iload (pc := 52) hB dX0_claimedInYear_52 4 rfl ?_
            refine gx_iconst (pc := 54) hB dX0_claimedInYear_54 4 (by decide) ?_
            refine gx_dVi (pc := 55) (r := gAt C (nI i) 4) (wr := [(h, .inr (0, [.ref c, .ref t1, .ref t2, .ref t3, .ref t4])), (t1, .inr (3, [.ref c, .int (nI 3), .int (nI 6), .int (nI 12)])), (t2, .inr (3, [.ref c, .int (nI 76), .int (nI 8), .int (nI 7)])), (t4, .inr (3, [.ref c, .int (nI 302), .int (nI 6), .int (nI 8)]))]) hB (c_X3_at l K t3 c 133 24 7 C (nI i) 4 (by first | decide | (unfold tHb; decide))) mX3_at dX0_claimedInYear_55 tb_245 pX3_at ⟨Nat.le_of_ble_eq_true rfl, Nat.le_of_ble_eq_true rfl⟩ ⟨rfl, rfl⟩ ⟨Nat.zero_le _, Nat.zero_le _⟩ rfl (Nat.le_of_ble_eq_true rfl) [3, 5] [0, 1, 2, 4] rfl rfl (by decide) (by decide) (by decide) rfl rfl [0, 1, 2, 4, 3, 5] (by decide) (wB K h t1 t2 t3 t4 c C) rfl ?_
            refine gx_iconst (pc := 58) hB dX0_claimedInYear_58 1 (by decide) ?_
            refine gx_icmp_ne (pc := 59) hB 88 dX0_claimedInYear_59 (by decide) (fun c_5 => ?_) (fun c_5 => ?_)
            · refine gx_iinc (pc := 88) hB dX0_claimedInYear_88 4 (by decide) rfl (nI (i + 1)) (nI_1 _) [(4, .int (nI (i + 1))), (0, .ref h), (1, .int x), (2, .int y), (3, .int (bYearN C x y i))] rfl ?_
              refine gx_goto (pc := 91) hB 5 dX0_claimedInYear_91 (by decide) ?_
              have g3 : bYearN C x y i = bYearN C x y (i + 1) := by simp [bYear, bYearN, Int32.not_le.mp c_2, eq_false c_2, c_3, c_4, eq_false c_5]
              rw [g3]
              refine gx_sub hB (lv' := [(0, .ref h), (1, .int x), (2, .int y), (3, .int (bYearN C x y (i + 1))), (4, .int (nI (i + 1)))]) [1, 2, 3, 4, 0] rfl ?_
              exact ih5 (i + 1) (by omega)
            · refine gx_aload_n (pc := 62) hB dX0_claimedInYear_62 0 rfl ?_
              refine gx_get (pc := 63) hB dX0_claimedInYear_63 inX0 rfl 0 rfl 3 (by decide) tb_129 rfl rfl ?_
              refine gx_iload (pc := 66) hB dX0_claimedInYear_66 4 rfl ?_
              refine gx_iconst (pc := 68) hB dX0_claimedInYear_68 5 (by decide) ?_
              refine gx_dVi (pc := 69) (r := gAt C (nI i) 5) (wr := [(h, .inr (0, [.ref c, .ref t1, .ref t2, .ref t3, .ref t4])), (t1, .inr (3, [.ref c, .int (nI 3), .int (nI 6), .int (nI 12)])), (t2, .inr (3, [.ref c, .int (nI 76), .int (nI 8), .int (nI 7)])), (t4, .inr (3, [.ref c, .int (nI 302), .int (nI 6), .int (nI 8)]))]) hB (c_X3_at l K t3 c 133 24 7 C (nI i) 5 (by first | decide | (unfold tHb; decide))) mX3_at dX0_claimedInYear_69 tb_245 pX3_at ⟨Nat.le_of_ble_eq_true rfl, Nat.le_of_ble_eq_true rfl⟩ ⟨rfl, rfl⟩ ⟨Nat.zero_le _, Nat.zero_le _⟩ rfl (Nat.le_of_ble_eq_true rfl) [3, 5] [0, 1, 2, 4] rfl rfl (by decide) (by decide) (by decide) rfl rfl [0, 1, 2, 4, 3, 5] (by decide) (wB K h t1 t2 t3 t4 c C) rfl ?_
              refine gx_if_ne (pc := 72) hB 88 dX0_claimedInYear_72 (by decide) (fun c_6 => ?_) (fun c_6 => ?_)
              · refine gx_iinc (pc := 88) hB dX0_claimedInYear_88 4 (by decide) rfl (nI (i + 1)) (nI_1 _) [(4, .int (nI (i + 1))), (0, .ref h), (1, .int x), (2, .int y), (3, .int (bYearN C x y i))] rfl ?_
                refine gx_goto (pc := 91) hB 5 dX0_claimedInYear_91 (by decide) ?_
                have g3 : bYearN C x y i = bYearN C x y (i + 1) := by simp [bYear, bYearN, Int32.not_le.mp c_2, eq_false c_2, c_3, c_4, c_5, eq_false c_6]
                rw [g3]
                refine gx_sub hB (lv' := [(0, .ref h), (1, .int x), (2, .int y), (3, .int (bYearN C x y (i + 1))), (4, .int (nI (i + 1)))]) [1, 2, 3, 4, 0] rfl ?_
                exact ih5 (i + 1) (by omega)
              · refine gx_iload_n (pc := 75) hB dX0_claimedInYear_75 3 rfl ?_
                refine gx_aload_n (pc := 76) hB dX0_claimedInYear_76 0 rfl ?_
                refine gx_get (pc := 77) hB dX0_claimedInYear_77 inX0 rfl 0 rfl 3 (by decide) tb_129 rfl rfl ?_
                refine gx_iload (pc := 80) hB dX0_claimedInYear_80 4 rfl ?_
                refine gx_iconst (pc := 82) hB dX0_claimedInYear_82 2 (by decide) ?_
                refine gx_dVi (pc := 83) (r := gAt C (nI i) 2) (wr := [(h, .inr (0, [.ref c, .ref t1, .ref t2, .ref t3, .ref t4])), (t1, .inr (3, [.ref c, .int (nI 3), .int (nI 6), .int (nI 12)])), (t2, .inr (3, [.ref c, .int (nI 76), .int (nI 8), .int (nI 7)])), (t4, .inr (3, [.ref c, .int (nI 302), .int (nI 6), .int (nI 8)]))]) hB (c_X3_at l K t3 c 133 24 7 C (nI i) 2 (by first | decide | (unfold tHb; decide))) mX3_at dX0_claimedInYear_83 tb_245 pX3_at ⟨Nat.le_of_ble_eq_true rfl, Nat.le_of_ble_eq_true rfl⟩ ⟨rfl, rfl⟩ ⟨Nat.zero_le _, Nat.zero_le _⟩ rfl (Nat.le_of_ble_eq_true rfl) [3, 5] [0, 1, 2, 4] rfl rfl (by decide) (by decide) (by decide) rfl rfl [0, 1, 2, 4, 3, 5] (by decide) (wB K h t1 t2 t3 t4 c C) rfl ?_
                refine gx_iadd (pc := 86) hB dX0_claimedInYear_86 ?_
                refine gx_istore_n (pc := 87) hB dX0_claimedInYear_87 (by decide) [(3, .int (bYearN C x y i + (gAt C (nI i) 2))), (0, .ref h), (1, .int x), (2, .int y), (4, .int (nI i))] rfl ?_
                refine gx_iinc (pc := 88) hB dX0_claimedInYear_88 4 (by decide) rfl (nI (i + 1)) (nI_1 _) [(4, .int (nI (i + 1))), (3, .int (bYearN C x y i + (gAt C (nI i) 2))), (0, .ref h), (1, .int x), (2, .int y)] rfl ?_
                refine gx_goto (pc := 91) hB 5 dX0_claimedInYear_91 (by decide) ?_
                have g3 : bYearN C x y i + (gAt C (nI i) 2) = bYearN C x y (i + 1) := by simp [bYear, bYearN, Int32.not_le.mp c_2, eq_false c_2, c_3, c_4, c_5, c_6]
                rw [g3]
                refine gx_sub hB (lv' := [(0, .ref h), (1, .int x), (2, .int y), (3, .int (bYearN C x y (i + 1))), (4, .int (nI (i + 1)))]) [2, 3, 4, 1, 0] rfl ?_
                exact ih5 (i + 1) (by omega)
  refine gx_sub hB (lv' := [(0, .ref h), (1, .int x), (2, .int y), (3, .int (bYearN C x y 0)), (4, .int (nI 0))]) [2, 3, 4, 1, 0] rfl ?_
  exact loop_5 ((C 133).toNatClampNeg) 0 (by omega)
theorem pX0_canBeClaimed : (parseMethodDescriptor yX0_canBeClaimed.desc).map (fun d => d.parameters.length) = some 1 := by decide +kernel
theorem mX0_canBeClaimed : gx_M yX0_canBeClaimed cX0_canBeClaimed 5 (some .boolean) := ⟨tb_326, tb_4, tb_69, tb_327, by decide, by decide⟩
set_option maxHeartbeats 4000000 in
set_option maxRecDepth 100000 in
theorem c_X0_canBeClaimed (l : Launch) (K : gx_K) (h t1 t2 t3 t4 c : Nat) (C : Nat → Int32) (x : Int32)  : gx_Ctr l K yX0_canBeClaimed cX0_canBeClaimed 5 (some .boolean) (rmm 3 46) [.ref h, .int x] (wB K h t1 t2 t3 t4 c C) (gx_D (some (.int (bI (bCan C x)))) (wB K h t1 t2 t3 t4 c C)) := by
  refine gx_of (by decide) (Nat.le_of_ble_eq_true rfl) (fun G hC => ?_)
  have hB := hC.b
  refine gx_lv (lv' := [(0, .ref h), (1, .int x)]) rfl ?_
  refine gx_aload_n (pc := 0) hB dX0_canBeClaimed_0 0 rfl ?_
  refine gx_get (pc := 1) hB dX0_canBeClaimed_1 inX0 rfl 0 rfl 3 (by decide) tb_129 rfl rfl ?_
  refine gx_iload_n (pc := 4) hB dX0_canBeClaimed_4 1 rfl ?_
  refine gx_iconst (pc := 5) hB dX0_canBeClaimed_5 0 (by decide) ?_
  refine gx_dVi (pc := 6) (r := gAt C x 0) (wr := [(h, .inr (0, [.ref c, .ref t1, .ref t2, .ref t3, .ref t4])), (t1, .inr (3, [.ref c, .int (nI 3), .int (nI 6), .int (nI 12)])), (t2, .inr (3, [.ref c, .int (nI 76), .int (nI 8), .int (nI 7)])), (t4, .inr (3, [.ref c, .int (nI 302), .int (nI 6), .int (nI 8)]))]) hB (c_X3_at l K t3 c 133 24 7 C x 0 (by first | decide | (unfold tHb; decide))) mX3_at dX0_canBeClaimed_6 tb_245 pX3_at ⟨Nat.le_of_ble_eq_true rfl, Nat.le_of_ble_eq_true rfl⟩ ⟨rfl, rfl⟩ ⟨Nat.zero_le _, Nat.zero_le _⟩ rfl (Nat.le_of_ble_eq_true rfl) [3, 5] [0, 1, 2, 4] rfl rfl (by decide) (by decide) (by decide) rfl rfl [0, 1, 2, 4, 3, 5] (by decide) (wB K h t1 t2 t3 t4 c C) rfl ?_
  refine gx_istore_n (pc := 9) hB dX0_canBeClaimed_9 (by decide) [(2, .int (gAt C x 0)), (0, .ref h), (1, .int x)] rfl ?_
  refine gx_aload_n (pc := 10) hB dX0_canBeClaimed_10 1 rfl ?_
  refine gx_get (pc := 11) hB dX0_canBeClaimed_11 inX0 rfl 0 rfl 3 (by decide) tb_129 rfl rfl ?_
  refine gx_iload_n (pc := 14) hB dX0_canBeClaimed_14 2 rfl ?_
  refine gx_iconst (pc := 15) hB dX0_canBeClaimed_15 3 (by decide) ?_
  refine gx_dVi (pc := 16) (r := gAt C x 3) (wr := [(h, .inr (0, [.ref c, .ref t1, .ref t2, .ref t3, .ref t4])), (t1, .inr (3, [.ref c, .int (nI 3), .int (nI 6), .int (nI 12)])), (t2, .inr (3, [.ref c, .int (nI 76), .int (nI 8), .int (nI 7)])), (t4, .inr (3, [.ref c, .int (nI 302), .int (nI 6), .int (nI 8)]))]) hB (c_X3_at l K t3 c 133 24 7 C x 3 (by first | decide | (unfold tHb; decide))) mX3_at dX0_canBeClaimed_16 tb_245 pX3_at ⟨Nat.le_of_ble_eq_true rfl, Nat.le_of_ble_eq_true rfl⟩ ⟨rfl, rfl⟩ ⟨Nat.zero_le _, Nat.zero_le _⟩ rfl (Nat.le_of_ble_eq_true rfl) [3, 5] [0, 1, 2, 4] rfl rfl (by decide) (by decide) (by decide) rfl rfl [0, 1, 2, 4, 3, 5] (by decide) (wB K h t1 t2 t3 t4 c C) rfl ?_
  refine gx_istore_n (pc := 19) hB dX0_canBeClaimed_19 (by decide) [(3, .int (gAt C x 3)), (2, .int (gAt C x 0)), (0, .ref h), (1, .int x)] rfl ?_
  refine gx_aload_n (pc := 20) hB dX0_canBeClaimed_20 2 rfl ?_
  refine gx_iload_n (pc := 21) hB dX0_canBeClaimed_21 3 rfl ?_
  refine gx_dVi (pc := 22) (r := bI (bClaimed C x)) (wr := []) hB (c_X0_isClaimed l K h t1 t2 t3 t4 c C x ) mX0_isClaimed dX0_canBeClaimed_22 tb_328 pX0_isClaimed ⟨Nat.le_of_ble_eq_true rfl, Nat.le_of_ble_eq_true rfl⟩ ⟨rfl, rfl⟩ ⟨Nat.zero_le _, Nat.zero_le _⟩ rfl (Nat.le_of_ble_eq_true rfl) [0, 1, 2, 3, 4, 5] [] rfl rfl (by decide) (by decide) (by decide) rfl rfl [0, 1, 2, 3, 4, 5] (by decide) (wB K h t1 t2 t3 t4 c C) rfl ?_
  refine gx_if_ne_b (pc := 25) hB 48 dX0_canBeClaimed_25 (by decide) (fun c_1 => ?_) (fun c_1 => ?_)
  · refine gx_iconst (pc := 48) hB dX0_canBeClaimed_48 0 (by decide) ?_
    have e1 : bI (bCan C x) = 0 := by simp [bCan, bI, c_1]
    exact gx_zret (pc := 49) hC dX0_canBeClaimed_49 (Nat.zero_le _) (Nat.zero_le _) (by decide) (⟨by rw [e1], rfl⟩)
  · refine gx_aload_n (pc := 28) hB dX0_canBeClaimed_28 2 rfl ?_
    refine gx_iload_n (pc := 29) hB dX0_canBeClaimed_29 3 rfl ?_
    refine gx_dVi (pc := 30) (r := bI (bRefunded C x)) (wr := []) hB (c_X0_isRefunded l K h t1 t2 t3 t4 c C x ) mX0_isRefunded dX0_canBeClaimed_30 tb_332 pX0_isRefunded ⟨Nat.le_of_ble_eq_true rfl, Nat.le_of_ble_eq_true rfl⟩ ⟨rfl, rfl⟩ ⟨Nat.zero_le _, Nat.zero_le _⟩ rfl (Nat.le_of_ble_eq_true rfl) [0, 1, 2, 3, 4, 5] [] rfl rfl (by decide) (by decide) (by decide) rfl rfl [0, 1, 2, 3, 4, 5] (by decide) (wB K h t1 t2 t3 t4 c C) rfl ?_
    refine gx_if_ne_b (pc := 33) hB 48 dX0_canBeClaimed_33 (by decide) (fun c_2 => ?_) (fun c_2 => ?_)
    · refine gx_iconst (pc := 48) hB dX0_canBeClaimed_48 0 (by decide) ?_
      have e1 : bI (bCan C x) = 0 := by simp [bCan, bI, c_1, c_2]
      exact gx_zret (pc := 49) hC dX0_canBeClaimed_49 (Nat.zero_le _) (Nat.zero_le _) (by decide) (⟨by rw [e1], rfl⟩)
    · refine gx_aload_n (pc := 36) hB dX0_canBeClaimed_36 2 rfl ?_
      refine gx_get (pc := 37) hB dX0_canBeClaimed_37 inX0 rfl 0 rfl 2 (by decide) tb_128 rfl rfl ?_
      refine gx_iload_n (pc := 40) hB dX0_canBeClaimed_40 1 rfl ?_
      refine gx_iconst (pc := 41) hB dX0_canBeClaimed_41 0 (by decide) ?_
      refine gx_dVi (pc := 42) (r := dAt C (gAt C x 0) 0) (wr := [(h, .inr (0, [.ref c, .ref t1, .ref t2, .ref t3, .ref t4])), (t1, .inr (3, [.ref c, .int (nI 3), .int (nI 6), .int (nI 12)])), (t3, .inr (3, [.ref c, .int (nI 133), .int (nI 24), .int (nI 7)])), (t4, .inr (3, [.ref c, .int (nI 302), .int (nI 6), .int (nI 8)]))]) hB (c_X3_at l K t2 c 76 8 7 C (gAt C x 0) 0 (by first | decide | (unfold tHb; decide))) mX3_at dX0_canBeClaimed_42 tb_245 pX3_at ⟨Nat.le_of_ble_eq_true rfl, Nat.le_of_ble_eq_true rfl⟩ ⟨rfl, rfl⟩ ⟨Nat.zero_le _, Nat.zero_le _⟩ rfl (Nat.le_of_ble_eq_true rfl) [2, 5] [0, 1, 3, 4] rfl rfl (by decide) (by decide) (by decide) rfl rfl [0, 1, 4, 2, 3, 5] (by decide) (wB K h t1 t2 t3 t4 c C) rfl ?_
      refine gx_if_ne (pc := 45) hB 50 dX0_canBeClaimed_45 (by decide) (fun c_3 => ?_) (fun c_3 => ?_)
      · refine gx_aload_n (pc := 50) hB dX0_canBeClaimed_50 2 rfl ?_
        refine gx_get (pc := 51) hB dX0_canBeClaimed_51 inX0 rfl 0 rfl 0 (by decide) tb_126 rfl rfl ?_
        refine gx_iconst (pc := 54) hB dX0_canBeClaimed_54 0 (by decide) ?_
        refine gx_iald (pc := 55) hB dX0_canBeClaimed_55 5 1 rfl rfl 0 rfl (by decide) (by decide) ?_
        refine gx_iload_n (pc := 56) hB dX0_canBeClaimed_56 0 rfl ?_
        refine gx_isub (pc := 57) hB dX0_canBeClaimed_57 ?_
        refine gx_bipush (pc := 58) hB dX0_canBeClaimed_58 47 (by decide) ?_
        refine gx_icmp_le (pc := 60) hB 65 dX0_canBeClaimed_60 (by decide) (fun c_4 => ?_) (fun c_4 => ?_)
        · refine gx_aload_n (pc := 65) hB dX0_canBeClaimed_65 2 rfl ?_
          refine gx_iload_n (pc := 66) hB dX0_canBeClaimed_66 1 rfl ?_
          refine gx_iload_n (pc := 67) hB dX0_canBeClaimed_67 0 rfl ?_
          refine gx_bipush (pc := 68) hB dX0_canBeClaimed_68 12 (by decide) ?_
          refine gx_idiv (pc := 70) hB dX0_canBeClaimed_70 (by decide) ?_
          refine gx_dVi (pc := 71) (r := bYear C (gAt C x 0) (gAt C x 3 / 12)) (wr := []) hB (c_X0_claimedInYear l K h t1 t2 t3 t4 c C (gAt C x 0) (gAt C x 3 / 12) ) mX0_claimedInYear dX0_canBeClaimed_71 tb_336 pX0_claimedInYear ⟨Nat.le_of_ble_eq_true rfl, Nat.le_of_ble_eq_true rfl⟩ ⟨rfl, rfl⟩ ⟨Nat.zero_le _, Nat.zero_le _⟩ rfl (Nat.le_of_ble_eq_true rfl) [0, 1, 2, 3, 4, 5] [] rfl rfl (by decide) (by decide) (by decide) rfl rfl [0, 1, 2, 3, 4, 5] (by decide) (wB K h t1 t2 t3 t4 c C) rfl ?_
          refine gx_istore (pc := 74) hB dX0_canBeClaimed_74 (by decide) [(4, .int (bYear C (gAt C x 0) (gAt C x 3 / 12))), (3, .int (gAt C x 3)), (2, .int (gAt C x 0)), (0, .ref h), (1, .int x)] rfl ?_
          refine gx_iload (pc := 76) hB dX0_canBeClaimed_76 0 rfl ?_
          refine gx_aload_n (pc := 78) hB dX0_canBeClaimed_78 3 rfl ?_
          refine gx_get (pc := 79) hB dX0_canBeClaimed_79 inX0 rfl 0 rfl 3 (by decide) tb_129 rfl rfl ?_
          refine gx_iload_n (pc := 82) hB dX0_canBeClaimed_82 4 rfl ?_
          refine gx_iconst (pc := 83) hB dX0_canBeClaimed_83 2 (by decide) ?_
          refine gx_dVi (pc := 84) (r := gAt C x 2) (wr := [(h, .inr (0, [.ref c, .ref t1, .ref t2, .ref t3, .ref t4])), (t1, .inr (3, [.ref c, .int (nI 3), .int (nI 6), .int (nI 12)])), (t2, .inr (3, [.ref c, .int (nI 76), .int (nI 8), .int (nI 7)])), (t4, .inr (3, [.ref c, .int (nI 302), .int (nI 6), .int (nI 8)]))]) hB (c_X3_at l K t3 c 133 24 7 C x 2 (by first | decide | (unfold tHb; decide))) mX3_at dX0_canBeClaimed_84 tb_245 pX3_at ⟨Nat.le_of_ble_eq_true rfl, Nat.le_of_ble_eq_true rfl⟩ ⟨rfl, rfl⟩ ⟨Nat.zero_le _, Nat.zero_le _⟩ rfl (Nat.le_of_ble_eq_true rfl) [3, 5] [0, 1, 2, 4] rfl rfl (by decide) (by decide) (by decide) rfl rfl [0, 1, 2, 4, 3, 5] (by decide) (wB K h t1 t2 t3 t4 c C) rfl ?_
          refine gx_iadd (pc := 87) hB dX0_canBeClaimed_87 ?_
          refine gx_aload_n (pc := 88) hB dX0_canBeClaimed_88 3 rfl ?_
          refine gx_get (pc := 89) hB dX0_canBeClaimed_89 inX0 rfl 0 rfl 0 (by decide) tb_126 rfl rfl ?_
          refine gx_iconst (pc := 92) hB dX0_canBeClaimed_92 2 (by decide) ?_
          refine gx_iald (pc := 93) hB dX0_canBeClaimed_93 5 1 rfl rfl 2 rfl (by decide) (by decide) ?_
          refine gx_icmp_gt (pc := 94) hB 101 dX0_canBeClaimed_94 (by decide) (fun c_5 => ?_) (fun c_5 => ?_)
          · refine gx_iconst (pc := 101) hB dX0_canBeClaimed_101 0 (by decide) ?_
            have e1 : bI (bCan C x) = 0 := by simp [bCan, bI, c_1, c_2, eq_false c_3, c_4, eq_false (Int32.not_lt.mpr c_4), c_5, eq_false (Int32.not_le.mpr c_5)]
            exact gx_zret (pc := 102) hC dX0_canBeClaimed_102 (Nat.zero_le _) (Nat.zero_le _) (by decide) (⟨by rw [e1], rfl⟩)
          · refine gx_iconst (pc := 97) hB dX0_canBeClaimed_97 1 (by decide) ?_
            refine gx_goto (pc := 98) hB 102 dX0_canBeClaimed_98 (by decide) ?_
            have e1 : bI (bCan C x) = 1 := by simp [bCan, bI, c_1, c_2, eq_false c_3, c_4, eq_false (Int32.not_lt.mpr c_4), c_5, eq_false c_5]
            exact gx_zret (pc := 102) hC dX0_canBeClaimed_102 (Nat.zero_le _) (Nat.zero_le _) (by decide) (⟨by rw [e1], rfl⟩)
        · refine gx_iconst (pc := 63) hB dX0_canBeClaimed_63 0 (by decide) ?_
          have e1 : bI (bCan C x) = 0 := by simp [bCan, bI, c_1, c_2, eq_false c_3, Int32.not_le.mp c_4, eq_false c_4]
          exact gx_zret (pc := 64) hC dX0_canBeClaimed_64 (Nat.zero_le _) (Nat.zero_le _) (by decide) (⟨by rw [e1], rfl⟩)
      · refine gx_iconst (pc := 48) hB dX0_canBeClaimed_48 0 (by decide) ?_
        have e1 : bI (bCan C x) = 0 := by simp [bCan, bI, c_1, c_2, c_3]
        exact gx_zret (pc := 49) hC dX0_canBeClaimed_49 (Nat.zero_le _) (Nat.zero_le _) (by decide) (⟨by rw [e1], rfl⟩)
theorem pX0_weightOf : (parseMethodDescriptor yX0_weightOf.desc).map (fun d => d.parameters.length) = some 2 := by decide +kernel
theorem mX0_weightOf : gx_M yX0_weightOf cX0_weightOf 4 (some .int) := ⟨tb_385, tb_13, tb_69, tb_386, by decide, by decide⟩
set_option maxHeartbeats 4000000 in
set_option maxRecDepth 100000 in
theorem c_X0_weightOf (l : Launch) (K : gx_K) (h t1 t2 t3 t4 c : Nat) (C : Nat → Int32) (x y : Int32)  : gx_Ctr l K yX0_weightOf cX0_weightOf 4 (some .int) (rmm 2 22) [.ref h, .int x, .int y] (wB K h t1 t2 t3 t4 c C) (gx_D (some (.int (bWeight C x y))) (wB K h t1 t2 t3 t4 c C)) := by
  refine gx_of (by decide) (Nat.le_of_ble_eq_true rfl) (fun G hC => ?_)
  have hB := hC.b
  refine gx_lv (lv' := [(0, .ref h), (1, .int x), (2, .int y)]) rfl ?_
  refine gx_aload_n (pc := 0) hB dX0_weightOf_0 0 rfl ?_
  refine gx_get (pc := 1) hB dX0_weightOf_1 inX0 rfl 0 rfl 3 (by decide) tb_129 rfl rfl ?_
  refine gx_iload_n (pc := 4) hB dX0_weightOf_4 1 rfl ?_
  refine gx_iconst (pc := 5) hB dX0_weightOf_5 1 (by decide) ?_
  refine gx_dVi (pc := 6) (r := gAt C x 1) (wr := [(h, .inr (0, [.ref c, .ref t1, .ref t2, .ref t3, .ref t4])), (t1, .inr (3, [.ref c, .int (nI 3), .int (nI 6), .int (nI 12)])), (t2, .inr (3, [.ref c, .int (nI 76), .int (nI 8), .int (nI 7)])), (t4, .inr (3, [.ref c, .int (nI 302), .int (nI 6), .int (nI 8)]))]) hB (c_X3_at l K t3 c 133 24 7 C x 1 (by first | decide | (unfold tHb; decide))) mX3_at dX0_weightOf_6 tb_245 pX3_at ⟨Nat.le_of_ble_eq_true rfl, Nat.le_of_ble_eq_true rfl⟩ ⟨rfl, rfl⟩ ⟨Nat.zero_le _, Nat.zero_le _⟩ rfl (Nat.le_of_ble_eq_true rfl) [3, 5] [0, 1, 2, 4] rfl rfl (by decide) (by decide) (by decide) rfl rfl [0, 1, 2, 4, 3, 5] (by decide) (wB K h t1 t2 t3 t4 c C) rfl ?_
  refine gx_iload_n (pc := 9) hB dX0_weightOf_9 2 rfl ?_
  refine gx_icmp_ne (pc := 10) hB 29 dX0_weightOf_10 (by decide) (fun c_1 => ?_) (fun c_1 => ?_)
  · refine gx_iconst (pc := 29) hB dX0_weightOf_29 0 (by decide) ?_
    refine gx_istore_n (pc := 30) hB dX0_weightOf_30 (by decide) [(3, .int 0), (0, .ref h), (1, .int x), (2, .int y)] rfl ?_
    refine gx_iload_n (pc := 31) hB dX0_weightOf_31 0 rfl ?_
    refine gx_if_eq (pc := 32) hB 47 dX0_weightOf_32 (by decide) (fun c_2 => ?_) (fun c_2 => ?_)
    · refine gx_iconst (pc := 47) hB dX0_weightOf_47 0 (by decide) ?_
      have e1 : bWeight C x y = 0 := by simp [bWeight, eq_false c_1]
      exact gx_iret (pc := 48) hC dX0_weightOf_48 (Nat.zero_le _) (Nat.zero_le _) (⟨by rw [e1], rfl⟩)
    · exact absurd c_2 (by decide)
  · refine gx_aload_n (pc := 13) hB dX0_weightOf_13 0 rfl ?_
    refine gx_get (pc := 14) hB dX0_weightOf_14 inX0 rfl 0 rfl 3 (by decide) tb_129 rfl rfl ?_
    refine gx_iload_n (pc := 17) hB dX0_weightOf_17 1 rfl ?_
    refine gx_iconst (pc := 18) hB dX0_weightOf_18 5 (by decide) ?_
    refine gx_dVi (pc := 19) (r := gAt C x 5) (wr := [(h, .inr (0, [.ref c, .ref t1, .ref t2, .ref t3, .ref t4])), (t1, .inr (3, [.ref c, .int (nI 3), .int (nI 6), .int (nI 12)])), (t2, .inr (3, [.ref c, .int (nI 76), .int (nI 8), .int (nI 7)])), (t4, .inr (3, [.ref c, .int (nI 302), .int (nI 6), .int (nI 8)]))]) hB (c_X3_at l K t3 c 133 24 7 C x 5 (by first | decide | (unfold tHb; decide))) mX3_at dX0_weightOf_19 tb_245 pX3_at ⟨Nat.le_of_ble_eq_true rfl, Nat.le_of_ble_eq_true rfl⟩ ⟨rfl, rfl⟩ ⟨Nat.zero_le _, Nat.zero_le _⟩ rfl (Nat.le_of_ble_eq_true rfl) [3, 5] [0, 1, 2, 4] rfl rfl (by decide) (by decide) (by decide) rfl rfl [0, 1, 2, 4, 3, 5] (by decide) (wB K h t1 t2 t3 t4 c C) rfl ?_
    refine gx_if_ne (pc := 22) hB 29 dX0_weightOf_22 (by decide) (fun c_3 => ?_) (fun c_3 => ?_)
    · refine gx_iconst (pc := 29) hB dX0_weightOf_29 0 (by decide) ?_
      refine gx_istore_n (pc := 30) hB dX0_weightOf_30 (by decide) [(3, .int 0), (0, .ref h), (1, .int x), (2, .int y)] rfl ?_
      refine gx_iload_n (pc := 31) hB dX0_weightOf_31 0 rfl ?_
      refine gx_if_eq (pc := 32) hB 47 dX0_weightOf_32 (by decide) (fun c_4 => ?_) (fun c_4 => ?_)
      · refine gx_iconst (pc := 47) hB dX0_weightOf_47 0 (by decide) ?_
        have e1 : bWeight C x y = 0 := by simp [bWeight, c_1, eq_false c_3]
        exact gx_iret (pc := 48) hC dX0_weightOf_48 (Nat.zero_le _) (Nat.zero_le _) (⟨by rw [e1], rfl⟩)
      · exact absurd c_4 (by decide)
    · refine gx_iconst (pc := 25) hB dX0_weightOf_25 1 (by decide) ?_
      refine gx_goto (pc := 26) hB 30 dX0_weightOf_26 (by decide) ?_
      refine gx_istore_n (pc := 30) hB dX0_weightOf_30 (by decide) [(3, .int 1), (0, .ref h), (1, .int x), (2, .int y)] rfl ?_
      refine gx_iload_n (pc := 31) hB dX0_weightOf_31 0 rfl ?_
      refine gx_if_eq (pc := 32) hB 47 dX0_weightOf_32 (by decide) (fun c_5 => ?_) (fun c_5 => ?_)
      · exact absurd c_5 (by decide)
      · refine gx_aload_n (pc := 35) hB dX0_weightOf_35 1 rfl ?_
        refine gx_get (pc := 36) hB dX0_weightOf_36 inX0 rfl 0 rfl 3 (by decide) tb_129 rfl rfl ?_
        refine gx_iload_n (pc := 39) hB dX0_weightOf_39 2 rfl ?_
        refine gx_iconst (pc := 40) hB dX0_weightOf_40 2 (by decide) ?_
        refine gx_dVi (pc := 41) (r := gAt C x 2) (wr := [(h, .inr (0, [.ref c, .ref t1, .ref t2, .ref t3, .ref t4])), (t1, .inr (3, [.ref c, .int (nI 3), .int (nI 6), .int (nI 12)])), (t2, .inr (3, [.ref c, .int (nI 76), .int (nI 8), .int (nI 7)])), (t4, .inr (3, [.ref c, .int (nI 302), .int (nI 6), .int (nI 8)]))]) hB (c_X3_at l K t3 c 133 24 7 C x 2 (by first | decide | (unfold tHb; decide))) mX3_at dX0_weightOf_41 tb_245 pX3_at ⟨Nat.le_of_ble_eq_true rfl, Nat.le_of_ble_eq_true rfl⟩ ⟨rfl, rfl⟩ ⟨Nat.zero_le _, Nat.zero_le _⟩ rfl (Nat.le_of_ble_eq_true rfl) [3, 5] [0, 1, 2, 4] rfl rfl (by decide) (by decide) (by decide) rfl rfl [0, 1, 2, 4, 3, 5] (by decide) (wB K h t1 t2 t3 t4 c C) rfl ?_
        refine gx_goto (pc := 44) hB 48 dX0_weightOf_44 (by decide) ?_
        have e1 : bWeight C x y = gAt C x 2 := by simp [bWeight, c_1, c_3]
        exact gx_iret (pc := 48) hC dX0_weightOf_48 (Nat.zero_le _) (Nat.zero_le _) (⟨by rw [e1], rfl⟩)
end
