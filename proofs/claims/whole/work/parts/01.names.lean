-- ===== PART A: goes FIRST, ahead of the names: the tables' words, and 'selects' of the private methods out of them =====
/-- a private method of a class that the tables say can be made, by its rows of tables_1 -/
def lw_okq (q : MethodName × Nat) : Prop := (q.1.cls ≠ "java/lang/invoke/MethodHandle" ∧ q.1.cls ≠ "java/lang/invoke/VarHandle") ∧ Cond.instantiable q.1.cls q.2 ∈ tables_1 ∧ Cond.privateMethod q.1 ∈ tables_1 ∧ Cond.instanceMethod q.1 ∈ tables_1
theorem lw_p0 : lw_okq (⟨"GiftPurposes$Books", "bookGift", "(IIII)I"⟩, 5) := ⟨⟨by decide +kernel, by decide +kernel⟩, List.mem_of_getElem? (i := 22) (by decide +kernel), List.mem_of_getElem? (i := 199) (by decide +kernel), List.mem_of_getElem? (i := 200) (by decide +kernel)⟩
theorem lw_p1 : lw_okq (⟨"GiftPurposes$Books", "isRunning", "(I)Z"⟩, 5) := ⟨⟨by decide +kernel, by decide +kernel⟩, List.mem_of_getElem? (i := 22) (by decide +kernel), List.mem_of_getElem? (i := 226) (by decide +kernel), List.mem_of_getElem? (i := 227) (by decide +kernel)⟩
theorem lw_p2 : lw_okq (⟨"GiftPurposes$Books", "haltPledge", "(I)V"⟩, 5) := ⟨⟨by decide +kernel, by decide +kernel⟩, List.mem_of_getElem? (i := 22) (by decide +kernel), List.mem_of_getElem? (i := 238) (by decide +kernel), List.mem_of_getElem? (i := 239) (by decide +kernel)⟩
theorem lw_p3 : lw_okq (⟨"GiftPurposes$Books", "isOf", "(II)Z"⟩, 5) := ⟨⟨by decide +kernel, by decide +kernel⟩, List.mem_of_getElem? (i := 22) (by decide +kernel), List.mem_of_getElem? (i := 254) (by decide +kernel), List.mem_of_getElem? (i := 255) (by decide +kernel)⟩
theorem lw_p4 : lw_okq (⟨"GiftPurposes$Books", "canBeClaimed", "(I)Z"⟩, 5) := ⟨⟨by decide +kernel, by decide +kernel⟩, List.mem_of_getElem? (i := 22) (by decide +kernel), List.mem_of_getElem? (i := 258) (by decide +kernel), List.mem_of_getElem? (i := 259) (by decide +kernel)⟩
theorem lw_p5 : lw_okq (⟨"GiftPurposes$Books", "isClaimed", "(I)Z"⟩, 5) := ⟨⟨by decide +kernel, by decide +kernel⟩, List.mem_of_getElem? (i := 22) (by decide +kernel), List.mem_of_getElem? (i := 262) (by decide +kernel), List.mem_of_getElem? (i := 263) (by decide +kernel)⟩
theorem lw_p6 : lw_okq (⟨"GiftPurposes$Books", "isRefunded", "(I)Z"⟩, 5) := ⟨⟨by decide +kernel, by decide +kernel⟩, List.mem_of_getElem? (i := 22) (by decide +kernel), List.mem_of_getElem? (i := 266) (by decide +kernel), List.mem_of_getElem? (i := 267) (by decide +kernel)⟩
theorem lw_p7 : lw_okq (⟨"GiftPurposes$Books", "claimedInYear", "(II)I"⟩, 5) := ⟨⟨by decide +kernel, by decide +kernel⟩, List.mem_of_getElem? (i := 22) (by decide +kernel), List.mem_of_getElem? (i := 270) (by decide +kernel), List.mem_of_getElem? (i := 271) (by decide +kernel)⟩
theorem lw_p8 : lw_okq (⟨"GiftPurposes$Books", "homeOfGift", "(I)I"⟩, 5) := ⟨⟨by decide +kernel, by decide +kernel⟩, List.mem_of_getElem? (i := 22) (by decide +kernel), List.mem_of_getElem? (i := 274) (by decide +kernel), List.mem_of_getElem? (i := 275) (by decide +kernel)⟩
theorem lw_p9 : lw_okq (⟨"GiftPurposes$Books", "taxOf", "(I)I"⟩, 5) := ⟨⟨by decide +kernel, by decide +kernel⟩, List.mem_of_getElem? (i := 22) (by decide +kernel), List.mem_of_getElem? (i := 278) (by decide +kernel), List.mem_of_getElem? (i := 279) (by decide +kernel)⟩
theorem lw_p10 : lw_okq (⟨"GiftPurposes$Books", "areTwoPurposes", "(II)Z"⟩, 5) := ⟨⟨by decide +kernel, by decide +kernel⟩, List.mem_of_getElem? (i := 22) (by decide +kernel), List.mem_of_getElem? (i := 305) (by decide +kernel), List.mem_of_getElem? (i := 306) (by decide +kernel)⟩
theorem lw_p11 : lw_okq (⟨"GiftPurposes$Books", "areMergeable", "(II)Z"⟩, 5) := ⟨⟨by decide +kernel, by decide +kernel⟩, List.mem_of_getElem? (i := 22) (by decide +kernel), List.mem_of_getElem? (i := 309) (by decide +kernel), List.mem_of_getElem? (i := 310) (by decide +kernel)⟩
theorem lw_p12 : lw_okq (⟨"GiftPurposes$Books", "weightOfDonor", "(II)I"⟩, 5) := ⟨⟨by decide +kernel, by decide +kernel⟩, List.mem_of_getElem? (i := 22) (by decide +kernel), List.mem_of_getElem? (i := 313) (by decide +kernel), List.mem_of_getElem? (i := 314) (by decide +kernel)⟩
theorem lw_p13 : lw_okq (⟨"GiftPurposes$Books", "weightOf", "(II)I"⟩, 5) := ⟨⟨by decide +kernel, by decide +kernel⟩, List.mem_of_getElem? (i := 22) (by decide +kernel), List.mem_of_getElem? (i := 317) (by decide +kernel), List.mem_of_getElem? (i := 318) (by decide +kernel)⟩
theorem lw_p14 : lw_okq (⟨"GiftPurposes$Books", "weightOfAll", "(I)I"⟩, 5) := ⟨⟨by decide +kernel, by decide +kernel⟩, List.mem_of_getElem? (i := 22) (by decide +kernel), List.mem_of_getElem? (i := 329) (by decide +kernel), List.mem_of_getElem? (i := 330) (by decide +kernel)⟩
theorem lw_p15 : lw_okq (⟨"GiftPurposes$Books", "weightOfConsents", "(II)I"⟩, 5) := ⟨⟨by decide +kernel, by decide +kernel⟩, List.mem_of_getElem? (i := 22) (by decide +kernel), List.mem_of_getElem? (i := 333) (by decide +kernel), List.mem_of_getElem? (i := 334) (by decide +kernel)⟩
def lw_privs_1 : List (MethodName × Nat) := [(⟨"GiftPurposes$Books", "bookGift", "(IIII)I"⟩, 5), (⟨"GiftPurposes$Books", "isRunning", "(I)Z"⟩, 5), (⟨"GiftPurposes$Books", "haltPledge", "(I)V"⟩, 5), (⟨"GiftPurposes$Books", "isOf", "(II)Z"⟩, 5), (⟨"GiftPurposes$Books", "canBeClaimed", "(I)Z"⟩, 5), (⟨"GiftPurposes$Books", "isClaimed", "(I)Z"⟩, 5), (⟨"GiftPurposes$Books", "isRefunded", "(I)Z"⟩, 5), (⟨"GiftPurposes$Books", "claimedInYear", "(II)I"⟩, 5), (⟨"GiftPurposes$Books", "homeOfGift", "(I)I"⟩, 5), (⟨"GiftPurposes$Books", "taxOf", "(I)I"⟩, 5), (⟨"GiftPurposes$Books", "areTwoPurposes", "(II)Z"⟩, 5), (⟨"GiftPurposes$Books", "areMergeable", "(II)Z"⟩, 5), (⟨"GiftPurposes$Books", "weightOfDonor", "(II)I"⟩, 5), (⟨"GiftPurposes$Books", "weightOf", "(II)I"⟩, 5), (⟨"GiftPurposes$Books", "weightOfAll", "(I)I"⟩, 5), (⟨"GiftPurposes$Books", "weightOfConsents", "(II)I"⟩, 5)]
theorem lw_r1 : ∀ q ∈ lw_privs_1, lw_okq q := List.forall_mem_cons.mpr ⟨lw_p0, List.forall_mem_cons.mpr ⟨lw_p1, List.forall_mem_cons.mpr ⟨lw_p2, List.forall_mem_cons.mpr ⟨lw_p3, List.forall_mem_cons.mpr ⟨lw_p4, List.forall_mem_cons.mpr ⟨lw_p5, List.forall_mem_cons.mpr ⟨lw_p6, List.forall_mem_cons.mpr ⟨lw_p7, List.forall_mem_cons.mpr ⟨lw_p8, List.forall_mem_cons.mpr ⟨lw_p9, List.forall_mem_cons.mpr ⟨lw_p10, List.forall_mem_cons.mpr ⟨lw_p11, List.forall_mem_cons.mpr ⟨lw_p12, List.forall_mem_cons.mpr ⟨lw_p13, List.forall_mem_cons.mpr ⟨lw_p14, List.forall_mem_cons.mpr ⟨lw_p15, fun _ h => absurd h List.not_mem_nil⟩⟩⟩⟩⟩⟩⟩⟩⟩⟩⟩⟩⟩⟩⟩⟩
theorem lw_p16 : lw_okq (⟨"GiftPurposes$Books", "agreesTo", "(III)Z"⟩, 5) := ⟨⟨by decide +kernel, by decide +kernel⟩, List.mem_of_getElem? (i := 22) (by decide +kernel), List.mem_of_getElem? (i := 337) (by decide +kernel), List.mem_of_getElem? (i := 338) (by decide +kernel)⟩
theorem lw_p17 : lw_okq (⟨"GiftPurposes$Books", "handOnPledges", "(II)V"⟩, 5) := ⟨⟨by decide +kernel, by decide +kernel⟩, List.mem_of_getElem? (i := 22) (by decide +kernel), List.mem_of_getElem? (i := 341) (by decide +kernel), List.mem_of_getElem? (i := 342) (by decide +kernel)⟩
theorem lw_p18 : lw_okq (⟨"GiftPurposes$Books", "forgetConsents", "(I)V"⟩, 5) := ⟨⟨by decide +kernel, by decide +kernel⟩, List.mem_of_getElem? (i := 22) (by decide +kernel), List.mem_of_getElem? (i := 345) (by decide +kernel), List.mem_of_getElem? (i := 346) (by decide +kernel)⟩
theorem lw_p19 : lw_okq (⟨"GiftPurposes$Books", "closePurpose", "(II)V"⟩, 5) := ⟨⟨by decide +kernel, by decide +kernel⟩, List.mem_of_getElem? (i := 22) (by decide +kernel), List.mem_of_getElem? (i := 349) (by decide +kernel), List.mem_of_getElem? (i := 350) (by decide +kernel)⟩
theorem lw_p20 : lw_okq (⟨"GiftPurposes$Books", "moveFund", "(II)I"⟩, 5) := ⟨⟨by decide +kernel, by decide +kernel⟩, List.mem_of_getElem? (i := 22) (by decide +kernel), List.mem_of_getElem? (i := 353) (by decide +kernel), List.mem_of_getElem? (i := 354) (by decide +kernel)⟩
theorem lw_p21 : lw_okq (⟨"GiftPurposes$Books", "runPledge", "(I)V"⟩, 5) := ⟨⟨by decide +kernel, by decide +kernel⟩, List.mem_of_getElem? (i := 22) (by decide +kernel), List.mem_of_getElem? (i := 373) (by decide +kernel), List.mem_of_getElem? (i := 374) (by decide +kernel)⟩
theorem lw_p22 : lw_okq (⟨"GiftPurposes$Books", "amountsOf", "(II)I"⟩, 5) := ⟨⟨by decide +kernel, by decide +kernel⟩, List.mem_of_getElem? (i := 22) (by decide +kernel), List.mem_of_getElem? (i := 402) (by decide +kernel), List.mem_of_getElem? (i := 403) (by decide +kernel)⟩
theorem lw_p23 : lw_okq (⟨"GiftPurposes$Books", "runningPledgesOf", "(I)I"⟩, 5) := ⟨⟨by decide +kernel, by decide +kernel⟩, List.mem_of_getElem? (i := 22) (by decide +kernel), List.mem_of_getElem? (i := 406) (by decide +kernel), List.mem_of_getElem? (i := 407) (by decide +kernel)⟩
theorem lw_p24 : lw_okq (⟨"GiftPurposes$Books", "tellConsent", "(II)I"⟩, 5) := ⟨⟨by decide +kernel, by decide +kernel⟩, List.mem_of_getElem? (i := 22) (by decide +kernel), List.mem_of_getElem? (i := 410) (by decide +kernel), List.mem_of_getElem? (i := 411) (by decide +kernel)⟩
theorem lw_p25 : lw_okq (⟨"GiftPurposes$Books", "closedPurposes", "()I"⟩, 5) := ⟨⟨by decide +kernel, by decide +kernel⟩, List.mem_of_getElem? (i := 22) (by decide +kernel), List.mem_of_getElem? (i := 451) (by decide +kernel), List.mem_of_getElem? (i := 452) (by decide +kernel)⟩
theorem lw_p26 : lw_okq (⟨"GiftPurposes$Script", "readCommand", "()I"⟩, 7) := ⟨⟨by decide +kernel, by decide +kernel⟩, List.mem_of_getElem? (i := 94) (by decide +kernel), List.mem_of_getElem? (i := 525) (by decide +kernel), List.mem_of_getElem? (i := 526) (by decide +kernel)⟩
theorem lw_p27 : lw_okq (⟨"GiftPurposes$Script", "readKind", "()I"⟩, 7) := ⟨⟨by decide +kernel, by decide +kernel⟩, List.mem_of_getElem? (i := 94) (by decide +kernel), List.mem_of_getElem? (i := 529) (by decide +kernel), List.mem_of_getElem? (i := 530) (by decide +kernel)⟩
theorem lw_p28 : lw_okq (⟨"GiftPurposes$Script", "standsNext", "(Ljava/lang/String;)Z"⟩, 7) := ⟨⟨by decide +kernel, by decide +kernel⟩, List.mem_of_getElem? (i := 94) (by decide +kernel), List.mem_of_getElem? (i := 545) (by decide +kernel), List.mem_of_getElem? (i := 546) (by decide +kernel)⟩
theorem lw_p29 : lw_okq (⟨"GiftPurposes$Script", "signAt", "(I)C"⟩, 7) := ⟨⟨by decide +kernel, by decide +kernel⟩, List.mem_of_getElem? (i := 94) (by decide +kernel), List.mem_of_getElem? (i := 559) (by decide +kernel), List.mem_of_getElem? (i := 560) (by decide +kernel)⟩
theorem lw_p30 : lw_okq (⟨"GiftPurposes$Script", "readSign", "(C)Z"⟩, 7) := ⟨⟨by decide +kernel, by decide +kernel⟩, List.mem_of_getElem? (i := 94) (by decide +kernel), List.mem_of_getElem? (i := 607) (by decide +kernel), List.mem_of_getElem? (i := 608) (by decide +kernel)⟩
theorem lw_p31 : lw_okq (⟨"GiftPurposes$Script", "readNumber", "(I)Z"⟩, 7) := ⟨⟨by decide +kernel, by decide +kernel⟩, List.mem_of_getElem? (i := 94) (by decide +kernel), List.mem_of_getElem? (i := 611) (by decide +kernel), List.mem_of_getElem? (i := 612) (by decide +kernel)⟩
def lw_privs_2 : List (MethodName × Nat) := [(⟨"GiftPurposes$Books", "agreesTo", "(III)Z"⟩, 5), (⟨"GiftPurposes$Books", "handOnPledges", "(II)V"⟩, 5), (⟨"GiftPurposes$Books", "forgetConsents", "(I)V"⟩, 5), (⟨"GiftPurposes$Books", "closePurpose", "(II)V"⟩, 5), (⟨"GiftPurposes$Books", "moveFund", "(II)I"⟩, 5), (⟨"GiftPurposes$Books", "runPledge", "(I)V"⟩, 5), (⟨"GiftPurposes$Books", "amountsOf", "(II)I"⟩, 5), (⟨"GiftPurposes$Books", "runningPledgesOf", "(I)I"⟩, 5), (⟨"GiftPurposes$Books", "tellConsent", "(II)I"⟩, 5), (⟨"GiftPurposes$Books", "closedPurposes", "()I"⟩, 5), (⟨"GiftPurposes$Script", "readCommand", "()I"⟩, 7), (⟨"GiftPurposes$Script", "readKind", "()I"⟩, 7), (⟨"GiftPurposes$Script", "standsNext", "(Ljava/lang/String;)Z"⟩, 7), (⟨"GiftPurposes$Script", "signAt", "(I)C"⟩, 7), (⟨"GiftPurposes$Script", "readSign", "(C)Z"⟩, 7), (⟨"GiftPurposes$Script", "readNumber", "(I)Z"⟩, 7)]
theorem lw_r2 : ∀ q ∈ lw_privs_2, lw_okq q := List.forall_mem_cons.mpr ⟨lw_p16, List.forall_mem_cons.mpr ⟨lw_p17, List.forall_mem_cons.mpr ⟨lw_p18, List.forall_mem_cons.mpr ⟨lw_p19, List.forall_mem_cons.mpr ⟨lw_p20, List.forall_mem_cons.mpr ⟨lw_p21, List.forall_mem_cons.mpr ⟨lw_p22, List.forall_mem_cons.mpr ⟨lw_p23, List.forall_mem_cons.mpr ⟨lw_p24, List.forall_mem_cons.mpr ⟨lw_p25, List.forall_mem_cons.mpr ⟨lw_p26, List.forall_mem_cons.mpr ⟨lw_p27, List.forall_mem_cons.mpr ⟨lw_p28, List.forall_mem_cons.mpr ⟨lw_p29, List.forall_mem_cons.mpr ⟨lw_p30, List.forall_mem_cons.mpr ⟨lw_p31, fun _ h => absurd h List.not_mem_nil⟩⟩⟩⟩⟩⟩⟩⟩⟩⟩⟩⟩⟩⟩⟩⟩
theorem lw_p32 : lw_okq (⟨"GiftPurposes$Script", "fail", "(II)I"⟩, 7) := ⟨⟨by decide +kernel, by decide +kernel⟩, List.mem_of_getElem? (i := 94) (by decide +kernel), List.mem_of_getElem? (i := 615) (by decide +kernel), List.mem_of_getElem? (i := 616) (by decide +kernel)⟩
theorem lw_p33 : lw_okq (⟨"GiftPurposes$Script", "perform", "(ILGiftPurposes$Books;)I"⟩, 7) := ⟨⟨by decide +kernel, by decide +kernel⟩, List.mem_of_getElem? (i := 94) (by decide +kernel), List.mem_of_getElem? (i := 619) (by decide +kernel), List.mem_of_getElem? (i := 620) (by decide +kernel)⟩
theorem lw_p34 : lw_okq (⟨"GiftPurposesModel", "putsPurpose", "(III)V"⟩, 15) := ⟨⟨by decide +kernel, by decide +kernel⟩, List.mem_of_getElem? (i := 641) (by decide +kernel), List.mem_of_getElem? (i := 647) (by decide +kernel), List.mem_of_getElem? (i := 648) (by decide +kernel)⟩
theorem lw_p35 : lw_okq (⟨"GiftPurposesModel", "changes", "()V"⟩, 15) := ⟨⟨by decide +kernel, by decide +kernel⟩, List.mem_of_getElem? (i := 641) (by decide +kernel), List.mem_of_getElem? (i := 711) (by decide +kernel), List.mem_of_getElem? (i := 712) (by decide +kernel)⟩
theorem lw_p36 : lw_okq (⟨"GiftPurposesModel", "putsDonor", "(III)V"⟩, 15) := ⟨⟨by decide +kernel, by decide +kernel⟩, List.mem_of_getElem? (i := 641) (by decide +kernel), List.mem_of_getElem? (i := 715) (by decide +kernel), List.mem_of_getElem? (i := 716) (by decide +kernel)⟩
theorem lw_p37 : lw_okq (⟨"GiftPurposesModel", "isDonor", "(I)Z"⟩, 15) := ⟨⟨by decide +kernel, by decide +kernel⟩, List.mem_of_getElem? (i := 641) (by decide +kernel), List.mem_of_getElem? (i := 727) (by decide +kernel), List.mem_of_getElem? (i := 728) (by decide +kernel)⟩
theorem lw_p38 : lw_okq (⟨"GiftPurposesModel", "ofDonor", "(II)I"⟩, 15) := ⟨⟨by decide +kernel, by decide +kernel⟩, List.mem_of_getElem? (i := 641) (by decide +kernel), List.mem_of_getElem? (i := 734) (by decide +kernel), List.mem_of_getElem? (i := 735) (by decide +kernel)⟩
theorem lw_p39 : lw_okq (⟨"GiftPurposesModel", "isPurpose", "(I)Z"⟩, 15) := ⟨⟨by decide +kernel, by decide +kernel⟩, List.mem_of_getElem? (i := 641) (by decide +kernel), List.mem_of_getElem? (i := 742) (by decide +kernel), List.mem_of_getElem? (i := 743) (by decide +kernel)⟩
theorem lw_p40 : lw_okq (⟨"GiftPurposesModel", "isClosed", "(I)Z"⟩, 15) := ⟨⟨by decide +kernel, by decide +kernel⟩, List.mem_of_getElem? (i := 641) (by decide +kernel), List.mem_of_getElem? (i := 746) (by decide +kernel), List.mem_of_getElem? (i := 747) (by decide +kernel)⟩
theorem lw_p41 : lw_okq (⟨"GiftPurposesModel", "ofPurpose", "(II)I"⟩, 15) := ⟨⟨by decide +kernel, by decide +kernel⟩, List.mem_of_getElem? (i := 641) (by decide +kernel), List.mem_of_getElem? (i := 750) (by decide +kernel), List.mem_of_getElem? (i := 751) (by decide +kernel)⟩
theorem lw_p42 : lw_okq (⟨"GiftPurposesModel", "gives", "(IIII)I"⟩, 15) := ⟨⟨by decide +kernel, by decide +kernel⟩, List.mem_of_getElem? (i := 641) (by decide +kernel), List.mem_of_getElem? (i := 754) (by decide +kernel), List.mem_of_getElem? (i := 755) (by decide +kernel)⟩
theorem lw_p43 : lw_okq (⟨"GiftPurposesModel", "adds", "(III)V"⟩, 15) := ⟨⟨by decide +kernel, by decide +kernel⟩, List.mem_of_getElem? (i := 641) (by decide +kernel), List.mem_of_getElem? (i := 758) (by decide +kernel), List.mem_of_getElem? (i := 759) (by decide +kernel)⟩
theorem lw_p44 : lw_okq (⟨"GiftPurposesModel", "putsPledge", "(III)V"⟩, 15) := ⟨⟨by decide +kernel, by decide +kernel⟩, List.mem_of_getElem? (i := 641) (by decide +kernel), List.mem_of_getElem? (i := 766) (by decide +kernel), List.mem_of_getElem? (i := 767) (by decide +kernel)⟩
theorem lw_p45 : lw_okq (⟨"GiftPurposesModel", "isPledge", "(I)Z"⟩, 15) := ⟨⟨by decide +kernel, by decide +kernel⟩, List.mem_of_getElem? (i := 641) (by decide +kernel), List.mem_of_getElem? (i := 774) (by decide +kernel), List.mem_of_getElem? (i := 775) (by decide +kernel)⟩
theorem lw_p46 : lw_okq (⟨"GiftPurposesModel", "ofPledge", "(II)I"⟩, 15) := ⟨⟨by decide +kernel, by decide +kernel⟩, List.mem_of_getElem? (i := 641) (by decide +kernel), List.mem_of_getElem? (i := 778) (by decide +kernel), List.mem_of_getElem? (i := 779) (by decide +kernel)⟩
theorem lw_p47 : lw_okq (⟨"GiftPurposesModel", "ends", "(II)V"⟩, 15) := ⟨⟨by decide +kernel, by decide +kernel⟩, List.mem_of_getElem? (i := 641) (by decide +kernel), List.mem_of_getElem? (i := 786) (by decide +kernel), List.mem_of_getElem? (i := 787) (by decide +kernel)⟩
def lw_privs_3 : List (MethodName × Nat) := [(⟨"GiftPurposes$Script", "fail", "(II)I"⟩, 7), (⟨"GiftPurposes$Script", "perform", "(ILGiftPurposes$Books;)I"⟩, 7), (⟨"GiftPurposesModel", "putsPurpose", "(III)V"⟩, 15), (⟨"GiftPurposesModel", "changes", "()V"⟩, 15), (⟨"GiftPurposesModel", "putsDonor", "(III)V"⟩, 15), (⟨"GiftPurposesModel", "isDonor", "(I)Z"⟩, 15), (⟨"GiftPurposesModel", "ofDonor", "(II)I"⟩, 15), (⟨"GiftPurposesModel", "isPurpose", "(I)Z"⟩, 15), (⟨"GiftPurposesModel", "isClosed", "(I)Z"⟩, 15), (⟨"GiftPurposesModel", "ofPurpose", "(II)I"⟩, 15), (⟨"GiftPurposesModel", "gives", "(IIII)I"⟩, 15), (⟨"GiftPurposesModel", "adds", "(III)V"⟩, 15), (⟨"GiftPurposesModel", "putsPledge", "(III)V"⟩, 15), (⟨"GiftPurposesModel", "isPledge", "(I)Z"⟩, 15), (⟨"GiftPurposesModel", "ofPledge", "(II)I"⟩, 15), (⟨"GiftPurposesModel", "ends", "(II)V"⟩, 15)]
theorem lw_r3 : ∀ q ∈ lw_privs_3, lw_okq q := List.forall_mem_cons.mpr ⟨lw_p32, List.forall_mem_cons.mpr ⟨lw_p33, List.forall_mem_cons.mpr ⟨lw_p34, List.forall_mem_cons.mpr ⟨lw_p35, List.forall_mem_cons.mpr ⟨lw_p36, List.forall_mem_cons.mpr ⟨lw_p37, List.forall_mem_cons.mpr ⟨lw_p38, List.forall_mem_cons.mpr ⟨lw_p39, List.forall_mem_cons.mpr ⟨lw_p40, List.forall_mem_cons.mpr ⟨lw_p41, List.forall_mem_cons.mpr ⟨lw_p42, List.forall_mem_cons.mpr ⟨lw_p43, List.forall_mem_cons.mpr ⟨lw_p44, List.forall_mem_cons.mpr ⟨lw_p45, List.forall_mem_cons.mpr ⟨lw_p46, List.forall_mem_cons.mpr ⟨lw_p47, fun _ h => absurd h List.not_mem_nil⟩⟩⟩⟩⟩⟩⟩⟩⟩⟩⟩⟩⟩⟩⟩⟩
theorem lw_p48 : lw_okq (⟨"GiftPurposesModel", "claims", "(I)I"⟩, 15) := ⟨⟨by decide +kernel, by decide +kernel⟩, List.mem_of_getElem? (i := 641) (by decide +kernel), List.mem_of_getElem? (i := 797) (by decide +kernel), List.mem_of_getElem? (i := 798) (by decide +kernel)⟩
theorem lw_p49 : lw_okq (⟨"GiftPurposesModel", "ofGift", "(II)I"⟩, 15) := ⟨⟨by decide +kernel, by decide +kernel⟩, List.mem_of_getElem? (i := 641) (by decide +kernel), List.mem_of_getElem? (i := 801) (by decide +kernel), List.mem_of_getElem? (i := 802) (by decide +kernel)⟩
theorem lw_p50 : lw_okq (⟨"GiftPurposesModel", "canClaim", "(I)Z"⟩, 15) := ⟨⟨by decide +kernel, by decide +kernel⟩, List.mem_of_getElem? (i := 641) (by decide +kernel), List.mem_of_getElem? (i := 805) (by decide +kernel), List.mem_of_getElem? (i := 806) (by decide +kernel)⟩
theorem lw_p51 : lw_okq (⟨"GiftPurposesModel", "home", "(I)I"⟩, 15) := ⟨⟨by decide +kernel, by decide +kernel⟩, List.mem_of_getElem? (i := 641) (by decide +kernel), List.mem_of_getElem? (i := 812) (by decide +kernel), List.mem_of_getElem? (i := 813) (by decide +kernel)⟩
theorem lw_p52 : lw_okq (⟨"GiftPurposesModel", "areTwo", "(II)Z"⟩, 15) := ⟨⟨by decide +kernel, by decide +kernel⟩, List.mem_of_getElem? (i := 641) (by decide +kernel), List.mem_of_getElem? (i := 828) (by decide +kernel), List.mem_of_getElem? (i := 829) (by decide +kernel)⟩
theorem lw_p53 : lw_okq (⟨"GiftPurposesModel", "weight", "(II)I"⟩, 15) := ⟨⟨by decide +kernel, by decide +kernel⟩, List.mem_of_getElem? (i := 641) (by decide +kernel), List.mem_of_getElem? (i := 832) (by decide +kernel), List.mem_of_getElem? (i := 833) (by decide +kernel)⟩
theorem lw_p54 : lw_okq (⟨"GiftPurposesModel", "weights", "(II)I"⟩, 15) := ⟨⟨by decide +kernel, by decide +kernel⟩, List.mem_of_getElem? (i := 641) (by decide +kernel), List.mem_of_getElem? (i := 840) (by decide +kernel), List.mem_of_getElem? (i := 841) (by decide +kernel)⟩
theorem lw_p55 : lw_okq (⟨"GiftPurposesModel", "goes", "(I)I"⟩, 15) := ⟨⟨by decide +kernel, by decide +kernel⟩, List.mem_of_getElem? (i := 641) (by decide +kernel), List.mem_of_getElem? (i := 852) (by decide +kernel), List.mem_of_getElem? (i := 853) (by decide +kernel)⟩
theorem lw_p56 : lw_okq (⟨"GiftPurposesModel", "month", "(I)I"⟩, 15) := ⟨⟨by decide +kernel, by decide +kernel⟩, List.mem_of_getElem? (i := 641) (by decide +kernel), List.mem_of_getElem? (i := 856) (by decide +kernel), List.mem_of_getElem? (i := 857) (by decide +kernel)⟩
theorem lw_p57 : lw_okq (⟨"GiftPurposesModel", "given", "(II)I"⟩, 15) := ⟨⟨by decide +kernel, by decide +kernel⟩, List.mem_of_getElem? (i := 641) (by decide +kernel), List.mem_of_getElem? (i := 873) (by decide +kernel), List.mem_of_getElem? (i := 874) (by decide +kernel)⟩
theorem lw_p58 : lw_okq (⟨"GiftPurposesModel", "running", "(I)I"⟩, 15) := ⟨⟨by decide +kernel, by decide +kernel⟩, List.mem_of_getElem? (i := 641) (by decide +kernel), List.mem_of_getElem? (i := 877) (by decide +kernel), List.mem_of_getElem? (i := 878) (by decide +kernel)⟩
theorem lw_p59 : lw_okq (⟨"GiftPurposesModel", "all", "(I)I"⟩, 15) := ⟨⟨by decide +kernel, by decide +kernel⟩, List.mem_of_getElem? (i := 641) (by decide +kernel), List.mem_of_getElem? (i := 893) (by decide +kernel), List.mem_of_getElem? (i := 894) (by decide +kernel)⟩
theorem lw_p60 : lw_okq (⟨"GiftPurposesModel", "plays", "()I"⟩, 15) := ⟨⟨by decide +kernel, by decide +kernel⟩, List.mem_of_getElem? (i := 641) (by decide +kernel), List.mem_of_getElem? (i := 921) (by decide +kernel), List.mem_of_getElem? (i := 922) (by decide +kernel)⟩
theorem lw_p61 : lw_okq (⟨"GiftPurposesModel", "reads", "()I"⟩, 15) := ⟨⟨by decide +kernel, by decide +kernel⟩, List.mem_of_getElem? (i := 641) (by decide +kernel), List.mem_of_getElem? (i := 925) (by decide +kernel), List.mem_of_getElem? (i := 926) (by decide +kernel)⟩
theorem lw_p62 : lw_okq (⟨"GiftPurposesModel", "word", "()I"⟩, 15) := ⟨⟨by decide +kernel, by decide +kernel⟩, List.mem_of_getElem? (i := 641) (by decide +kernel), List.mem_of_getElem? (i := 929) (by decide +kernel), List.mem_of_getElem? (i := 930) (by decide +kernel)⟩
theorem lw_p63 : lw_okq (⟨"GiftPurposesModel", "isAt", "(II)Z"⟩, 15) := ⟨⟨by decide +kernel, by decide +kernel⟩, List.mem_of_getElem? (i := 641) (by decide +kernel), List.mem_of_getElem? (i := 933) (by decide +kernel), List.mem_of_getElem? (i := 934) (by decide +kernel)⟩
def lw_privs_4 : List (MethodName × Nat) := [(⟨"GiftPurposesModel", "claims", "(I)I"⟩, 15), (⟨"GiftPurposesModel", "ofGift", "(II)I"⟩, 15), (⟨"GiftPurposesModel", "canClaim", "(I)Z"⟩, 15), (⟨"GiftPurposesModel", "home", "(I)I"⟩, 15), (⟨"GiftPurposesModel", "areTwo", "(II)Z"⟩, 15), (⟨"GiftPurposesModel", "weight", "(II)I"⟩, 15), (⟨"GiftPurposesModel", "weights", "(II)I"⟩, 15), (⟨"GiftPurposesModel", "goes", "(I)I"⟩, 15), (⟨"GiftPurposesModel", "month", "(I)I"⟩, 15), (⟨"GiftPurposesModel", "given", "(II)I"⟩, 15), (⟨"GiftPurposesModel", "running", "(I)I"⟩, 15), (⟨"GiftPurposesModel", "all", "(I)I"⟩, 15), (⟨"GiftPurposesModel", "plays", "()I"⟩, 15), (⟨"GiftPurposesModel", "reads", "()I"⟩, 15), (⟨"GiftPurposesModel", "word", "()I"⟩, 15), (⟨"GiftPurposesModel", "isAt", "(II)Z"⟩, 15)]
theorem lw_r4 : ∀ q ∈ lw_privs_4, lw_okq q := List.forall_mem_cons.mpr ⟨lw_p48, List.forall_mem_cons.mpr ⟨lw_p49, List.forall_mem_cons.mpr ⟨lw_p50, List.forall_mem_cons.mpr ⟨lw_p51, List.forall_mem_cons.mpr ⟨lw_p52, List.forall_mem_cons.mpr ⟨lw_p53, List.forall_mem_cons.mpr ⟨lw_p54, List.forall_mem_cons.mpr ⟨lw_p55, List.forall_mem_cons.mpr ⟨lw_p56, List.forall_mem_cons.mpr ⟨lw_p57, List.forall_mem_cons.mpr ⟨lw_p58, List.forall_mem_cons.mpr ⟨lw_p59, List.forall_mem_cons.mpr ⟨lw_p60, List.forall_mem_cons.mpr ⟨lw_p61, List.forall_mem_cons.mpr ⟨lw_p62, List.forall_mem_cons.mpr ⟨lw_p63, fun _ h => absurd h List.not_mem_nil⟩⟩⟩⟩⟩⟩⟩⟩⟩⟩⟩⟩⟩⟩⟩⟩
theorem lw_p64 : lw_okq (⟨"GiftPurposesModel", "passes", "(I)Z"⟩, 15) := ⟨⟨by decide +kernel, by decide +kernel⟩, List.mem_of_getElem? (i := 641) (by decide +kernel), List.mem_of_getElem? (i := 938) (by decide +kernel), List.mem_of_getElem? (i := 939) (by decide +kernel)⟩
theorem lw_p65 : lw_okq (⟨"GiftPurposesModel", "number", "(I)Z"⟩, 15) := ⟨⟨by decide +kernel, by decide +kernel⟩, List.mem_of_getElem? (i := 641) (by decide +kernel), List.mem_of_getElem? (i := 942) (by decide +kernel), List.mem_of_getElem? (i := 943) (by decide +kernel)⟩
theorem lw_p66 : lw_okq (⟨"GiftPurposesModel", "calls", "(I)I"⟩, 15) := ⟨⟨by decide +kernel, by decide +kernel⟩, List.mem_of_getElem? (i := 641) (by decide +kernel), List.mem_of_getElem? (i := 946) (by decide +kernel), List.mem_of_getElem? (i := 947) (by decide +kernel)⟩
def lw_privs_5 : List (MethodName × Nat) := [(⟨"GiftPurposesModel", "passes", "(I)Z"⟩, 15), (⟨"GiftPurposesModel", "number", "(I)Z"⟩, 15), (⟨"GiftPurposesModel", "calls", "(I)I"⟩, 15)]
theorem lw_r5 : ∀ q ∈ lw_privs_5, lw_okq q := List.forall_mem_cons.mpr ⟨lw_p64, List.forall_mem_cons.mpr ⟨lw_p65, List.forall_mem_cons.mpr ⟨lw_p66, fun _ h => absurd h List.not_mem_nil⟩⟩⟩
def lw_privs : List (MethodName × Nat) := lw_privs_1 ++ (lw_privs_2 ++ (lw_privs_3 ++ (lw_privs_4 ++ (lw_privs_5))))
def lw_tbl : List Cond := k2_sels lw_privs ++ tables_1
theorem lw_privs_ok : ∀ q ∈ lw_privs, lw_okq q := by
  show ∀ q ∈ lw_privs_1 ++ (lw_privs_2 ++ (lw_privs_3 ++ (lw_privs_4 ++ (lw_privs_5)))), lw_okq q
  exact List.forall_mem_append.mpr ⟨lw_r1, List.forall_mem_append.mpr ⟨lw_r2, List.forall_mem_append.mpr ⟨lw_r3, List.forall_mem_append.mpr ⟨lw_r4, lw_r5⟩⟩⟩⟩
/-! ===== BEGIN printed: names, fields, word lists, decode rows ===== -/
def RX0 : String := "GiftPurposes$Books"
def TX0 : u_T := fun k => match k with
  | 0 => ("GiftPurposes$Books", "cells", "[I", true)
  | 1 => ("GiftPurposes$Books", "purposes", "LGiftPurposes$Table;", true)
  | 2 => ("GiftPurposes$Books", "donors", "LGiftPurposes$Table;", true)
  | 3 => ("GiftPurposes$Books", "gifts", "LGiftPurposes$Table;", true)
  | _ => ("GiftPurposes$Books", "pledges", "LGiftPurposes$Table;", true)
def tyX0 : Nat → FieldType := fun k => match k with
  | 0 => .array .int
  | 1 => .object "GiftPurposes$Table"
  | 2 => .object "GiftPurposes$Table"
  | 3 => .object "GiftPurposes$Table"
  | _ => .object "GiftPurposes$Table"
abbrev wsX00 : List Cond := u_ws RX0 TX0 5
theorem nmX0 : ∀ a, a < 5 → ∀ b, b < 5 → a ≠ b → (TX0 a).2.1 ≠ (TX0 b).2.1 := by decide +kernel
theorem tyX0_ok : ∀ k, k < 5 → parseFieldDescriptor (TX0 k).2.2.1 = some (tyX0 k) := by decide +kernel
abbrev cX0_init : ByteArray := prog_2_method_1_code
def yX0_init : MethodName := ⟨RX0, "<init>", "([I)V"⟩
abbrev cX0_copyFrom : ByteArray := prog_2_method_2_code
def yX0_copyFrom : MethodName := ⟨RX0, "copyFrom", "(LGiftPurposes$Books;)V"⟩
abbrev cX0_saveTo : ByteArray := prog_2_method_3_code
def yX0_saveTo : MethodName := ⟨RX0, "saveTo", "([I)V"⟩
abbrev cX0_loadFrom : ByteArray := prog_2_method_4_code
def yX0_loadFrom : MethodName := ⟨RX0, "loadFrom", "([I)V"⟩
abbrev cX0_addPurpose : ByteArray := prog_2_method_5_code
def yX0_addPurpose : MethodName := ⟨RX0, "addPurpose", "()I"⟩
abbrev cX0_addDonor : ByteArray := prog_2_method_6_code
def yX0_addDonor : MethodName := ⟨RX0, "addDonor", "()I"⟩
abbrev cX0_letDeclare : ByteArray := prog_2_method_7_code
def yX0_letDeclare : MethodName := ⟨RX0, "letDeclare", "(II)I"⟩
abbrev cX0_hasPurpose : ByteArray := prog_2_method_8_code
def yX0_hasPurpose : MethodName := ⟨RX0, "hasPurpose", "(I)Z"⟩
abbrev cX0_hasDonor : ByteArray := prog_2_method_9_code
def yX0_hasDonor : MethodName := ⟨RX0, "hasDonor", "(I)Z"⟩
abbrev cX0_isClosed : ByteArray := prog_2_method_10_code
def yX0_isClosed : MethodName := ⟨RX0, "isClosed", "(I)Z"⟩
abbrev cX0_fundOf : ByteArray := prog_2_method_11_code
def yX0_fundOf : MethodName := ⟨RX0, "fundOf", "(I)I"⟩
abbrev cX0_addGift : ByteArray := prog_2_method_12_code
def yX0_addGift : MethodName := ⟨RX0, "addGift", "(III)I"⟩
abbrev cX0_bookGift : ByteArray := prog_2_method_13_code
def yX0_bookGift : MethodName := ⟨RX0, "bookGift", "(IIII)I"⟩
abbrev cX0_taxOf : ByteArray := prog_2_method_14_code
def yX0_taxOf : MethodName := ⟨RX0, "taxOf", "(I)I"⟩
abbrev cX0_homeOfGift : ByteArray := prog_2_method_15_code
def yX0_homeOfGift : MethodName := ⟨RX0, "homeOfGift", "(I)I"⟩
abbrev cX0_isOf : ByteArray := prog_2_method_16_code
def yX0_isOf : MethodName := ⟨RX0, "isOf", "(II)Z"⟩
abbrev cX0_isClaimed : ByteArray := prog_2_method_17_code
def yX0_isClaimed : MethodName := ⟨RX0, "isClaimed", "(I)Z"⟩
abbrev cX0_isRefunded : ByteArray := prog_2_method_18_code
def yX0_isRefunded : MethodName := ⟨RX0, "isRefunded", "(I)Z"⟩
abbrev cX0_addPledge : ByteArray := prog_2_method_19_code
def yX0_addPledge : MethodName := ⟨RX0, "addPledge", "(IIII)I"⟩
abbrev cX0_tellMiss : ByteArray := prog_2_method_20_code
def yX0_tellMiss : MethodName := ⟨RX0, "tellMiss", "(I)I"⟩
abbrev cX0_stopPledge : ByteArray := prog_2_method_21_code
def yX0_stopPledge : MethodName := ⟨RX0, "stopPledge", "(I)I"⟩
abbrev cX0_isRunning : ByteArray := prog_2_method_22_code
def yX0_isRunning : MethodName := ⟨RX0, "isRunning", "(I)Z"⟩
abbrev cX0_haltPledge : ByteArray := prog_2_method_23_code
def yX0_haltPledge : MethodName := ⟨RX0, "haltPledge", "(I)V"⟩
abbrev cX0_isSpan : ByteArray := prog_2_method_24_code
def yX0_isSpan : MethodName := ⟨RX0, "isSpan", "(I)Z"⟩
abbrev cX0_passMonths : ByteArray := prog_2_method_25_code
def yX0_passMonths : MethodName := ⟨RX0, "passMonths", "(II)I"⟩
abbrev cX0_runPledge : ByteArray := prog_2_method_26_code
def yX0_runPledge : MethodName := ⟨RX0, "runPledge", "(I)V"⟩
abbrev cX0_claimGifts : ByteArray := prog_2_method_27_code
def yX0_claimGifts : MethodName := ⟨RX0, "claimGifts", "(I)I"⟩
abbrev cX0_canBeClaimed : ByteArray := prog_2_method_28_code
def yX0_canBeClaimed : MethodName := ⟨RX0, "canBeClaimed", "(I)Z"⟩
abbrev cX0_claimedInYear : ByteArray := prog_2_method_29_code
def yX0_claimedInYear : MethodName := ⟨RX0, "claimedInYear", "(II)I"⟩
abbrev cX0_spendOn : ByteArray := prog_2_method_30_code
def yX0_spendOn : MethodName := ⟨RX0, "spendOn", "(II)I"⟩
abbrev cX0_refundGift : ByteArray := prog_2_method_31_code
def yX0_refundGift : MethodName := ⟨RX0, "refundGift", "(I)I"⟩
abbrev cX0_consentTo : ByteArray := prog_2_method_32_code
def yX0_consentTo : MethodName := ⟨RX0, "consentTo", "(III)I"⟩
abbrev cX0_mergePurpose : ByteArray := prog_2_method_33_code
def yX0_mergePurpose : MethodName := ⟨RX0, "mergePurpose", "(II)I"⟩
abbrev cX0_tellConsents : ByteArray := prog_2_method_34_code
def yX0_tellConsents : MethodName := ⟨RX0, "tellConsents", "(II)I"⟩
abbrev cX0_areTwoPurposes : ByteArray := prog_2_method_35_code
def yX0_areTwoPurposes : MethodName := ⟨RX0, "areTwoPurposes", "(II)Z"⟩
abbrev cX0_areMergeable : ByteArray := prog_2_method_36_code
def yX0_areMergeable : MethodName := ⟨RX0, "areMergeable", "(II)Z"⟩
abbrev cX0_agreesTo : ByteArray := prog_2_method_37_code
def yX0_agreesTo : MethodName := ⟨RX0, "agreesTo", "(III)Z"⟩
abbrev cX0_weightOf : ByteArray := prog_2_method_38_code
def yX0_weightOf : MethodName := ⟨RX0, "weightOf", "(II)I"⟩
abbrev cX0_weightOfDonor : ByteArray := prog_2_method_39_code
def yX0_weightOfDonor : MethodName := ⟨RX0, "weightOfDonor", "(II)I"⟩
abbrev cX0_weightOfAll : ByteArray := prog_2_method_40_code
def yX0_weightOfAll : MethodName := ⟨RX0, "weightOfAll", "(I)I"⟩
abbrev cX0_weightOfConsents : ByteArray := prog_2_method_41_code
def yX0_weightOfConsents : MethodName := ⟨RX0, "weightOfConsents", "(II)I"⟩
abbrev cX0_handOnPledges : ByteArray := prog_2_method_42_code
def yX0_handOnPledges : MethodName := ⟨RX0, "handOnPledges", "(II)V"⟩
abbrev cX0_forgetConsents : ByteArray := prog_2_method_43_code
def yX0_forgetConsents : MethodName := ⟨RX0, "forgetConsents", "(I)V"⟩
abbrev cX0_closePurpose : ByteArray := prog_2_method_44_code
def yX0_closePurpose : MethodName := ⟨RX0, "closePurpose", "(II)V"⟩
abbrev cX0_moveFund : ByteArray := prog_2_method_45_code
def yX0_moveFund : MethodName := ⟨RX0, "moveFund", "(II)I"⟩
abbrev cX0_changeSetting : ByteArray := prog_2_method_46_code
def yX0_changeSetting : MethodName := ⟨RX0, "changeSetting", "(II)I"⟩
abbrev cX0_tellPurpose : ByteArray := prog_2_method_47_code
def yX0_tellPurpose : MethodName := ⟨RX0, "tellPurpose", "(II)I"⟩
abbrev cX0_tellDonor : ByteArray := prog_2_method_48_code
def yX0_tellDonor : MethodName := ⟨RX0, "tellDonor", "(II)I"⟩
abbrev cX0_tellConsent : ByteArray := prog_2_method_49_code
def yX0_tellConsent : MethodName := ⟨RX0, "tellConsent", "(II)I"⟩
abbrev cX0_amountsOf : ByteArray := prog_2_method_50_code
def yX0_amountsOf : MethodName := ⟨RX0, "amountsOf", "(II)I"⟩
abbrev cX0_runningPledgesOf : ByteArray := prog_2_method_51_code
def yX0_runningPledgesOf : MethodName := ⟨RX0, "runningPledgesOf", "(I)I"⟩
abbrev cX0_tellGift : ByteArray := prog_2_method_52_code
def yX0_tellGift : MethodName := ⟨RX0, "tellGift", "(II)I"⟩
abbrev cX0_tellPledge : ByteArray := prog_2_method_53_code
def yX0_tellPledge : MethodName := ⟨RX0, "tellPledge", "(II)I"⟩
abbrev cX0_tellNumber : ByteArray := prog_2_method_54_code
def yX0_tellNumber : MethodName := ⟨RX0, "tellNumber", "(I)I"⟩
abbrev cX0_closedPurposes : ByteArray := prog_2_method_55_code
def yX0_closedPurposes : MethodName := ⟨RX0, "closedPurposes", "()I"⟩
def RX1 : String := "GiftPurposes$History"
def TX1 : u_T := fun k => match k with
  | 0 => ("GiftPurposes$History", "rows", "[[I", true)
  | 1 => ("GiftPurposes$History", "oldest", "I", false)
  | _ => ("GiftPurposes$History", "states", "I", false)
def tyX1 : Nat → FieldType := fun k => match k with
  | 0 => .array (.array .int)
  | 1 => .int
  | _ => .int
abbrev wsX10 : List Cond := u_ws RX1 TX1 3
theorem nmX1 : ∀ a, a < 3 → ∀ b, b < 3 → a ≠ b → (TX1 a).2.1 ≠ (TX1 b).2.1 := by decide +kernel
theorem tyX1_ok : ∀ k, k < 3 → parseFieldDescriptor (TX1 k).2.2.1 = some (tyX1 k) := by decide +kernel
abbrev cX1_init : ByteArray := prog_3_method_1_code
def yX1_init : MethodName := ⟨RX1, "<init>", "()V"⟩
abbrev cX1_size : ByteArray := prog_3_method_2_code
def yX1_size : MethodName := ⟨RX1, "size", "()I"⟩
abbrev cX1_draft : ByteArray := prog_3_method_3_code
def yX1_draft : MethodName := ⟨RX1, "draft", "(LGiftPurposes$Books;)V"⟩
abbrev cX1_keepUnlessError : ByteArray := prog_3_method_4_code
def yX1_keepUnlessError : MethodName := ⟨RX1, "keepUnlessError", "(I)I"⟩
abbrev cX1_restoreLatest : ByteArray := prog_3_method_5_code
def yX1_restoreLatest : MethodName := ⟨RX1, "restoreLatest", "(LGiftPurposes$Books;)I"⟩
def RX2 : String := "GiftPurposes$Script"
def TX2 : u_T := fun k => match k with
  | 0 => ("GiftPurposes$Script", "signs", "[C", true)
  | 1 => ("GiftPurposes$Script", "length", "I", false)
  | 2 => ("GiftPurposes$Script", "numbers", "[I", true)
  | 3 => ("GiftPurposes$Script", "read", "I", false)
  | 4 => ("GiftPurposes$Script", "place", "I", false)
  | 5 => ("GiftPurposes$Script", "reason", "I", false)
  | _ => ("GiftPurposes$Script", "cause", "I", false)
def tyX2 : Nat → FieldType := fun k => match k with
  | 0 => .array .char
  | 1 => .int
  | 2 => .array .int
  | 3 => .int
  | 4 => .int
  | 5 => .int
  | _ => .int
abbrev wsX20 : List Cond := u_ws RX2 TX2 7
theorem nmX2 : ∀ a, a < 7 → ∀ b, b < 7 → a ≠ b → (TX2 a).2.1 ≠ (TX2 b).2.1 := by decide +kernel
theorem tyX2_ok : ∀ k, k < 7 → parseFieldDescriptor (TX2 k).2.2.1 = some (tyX2 k) := by decide +kernel
abbrev cX2_init : ByteArray := prog_4_method_1_code
def yX2_init : MethodName := ⟨RX2, "<init>", "()V"⟩
abbrev cX2_size : ByteArray := prog_4_method_2_code
def yX2_size : MethodName := ⟨RX2, "size", "()I"⟩
abbrev cX2_append : ByteArray := prog_4_method_3_code
def yX2_append : MethodName := ⟨RX2, "append", "(I)I"⟩
abbrev cX2_empty : ByteArray := prog_4_method_4_code
def yX2_empty : MethodName := ⟨RX2, "empty", "()I"⟩
abbrev cX2_runOn : ByteArray := prog_4_method_5_code
def yX2_runOn : MethodName := ⟨RX2, "runOn", "(LGiftPurposes$Books;)I"⟩
abbrev cX2_tellFault : ByteArray := prog_4_method_6_code
def yX2_tellFault : MethodName := ⟨RX2, "tellFault", "(I)I"⟩
abbrev cX2_fail : ByteArray := prog_4_method_7_code
def yX2_fail : MethodName := ⟨RX2, "fail", "(II)I"⟩
abbrev cX2_readCommand : ByteArray := prog_4_method_8_code
def yX2_readCommand : MethodName := ⟨RX2, "readCommand", "()I"⟩
abbrev cX2_readKind : ByteArray := prog_4_method_9_code
def yX2_readKind : MethodName := ⟨RX2, "readKind", "()I"⟩
abbrev cX2_standsNext : ByteArray := prog_4_method_10_code
def yX2_standsNext : MethodName := ⟨RX2, "standsNext", "(Ljava/lang/String;)Z"⟩
abbrev cX2_readSign : ByteArray := prog_4_method_11_code
def yX2_readSign : MethodName := ⟨RX2, "readSign", "(C)Z"⟩
abbrev cX2_readNumber : ByteArray := prog_4_method_12_code
def yX2_readNumber : MethodName := ⟨RX2, "readNumber", "(I)Z"⟩
abbrev cX2_signAt : ByteArray := prog_4_method_13_code
def yX2_signAt : MethodName := ⟨RX2, "signAt", "(I)C"⟩
abbrev cX2_perform : ByteArray := prog_4_method_14_code
def yX2_perform : MethodName := ⟨RX2, "perform", "(ILGiftPurposes$Books;)I"⟩
abbrev cX2_wordOf : ByteArray := prog_4_method_15_code
def yX2_wordOf : MethodName := ⟨RX2, "wordOf", "(I)Ljava/lang/String;"⟩
abbrev cX2_numbersOf : ByteArray := prog_4_method_16_code
def yX2_numbersOf : MethodName := ⟨RX2, "numbersOf", "(I)I"⟩
def RX3 : String := "GiftPurposes$Table"
def TX3 : u_T := fun k => match k with
  | 0 => ("GiftPurposes$Table", "cells", "[I", true)
  | 1 => ("GiftPurposes$Table", "start", "I", true)
  | 2 => ("GiftPurposes$Table", "most", "I", true)
  | _ => ("GiftPurposes$Table", "width", "I", true)
def tyX3 : Nat → FieldType := fun k => match k with
  | 0 => .array .int
  | 1 => .int
  | 2 => .int
  | _ => .int
abbrev wsX30 : List Cond := u_ws RX3 TX3 4
theorem nmX3 : ∀ a, a < 4 → ∀ b, b < 4 → a ≠ b → (TX3 a).2.1 ≠ (TX3 b).2.1 := by decide +kernel
theorem tyX3_ok : ∀ k, k < 4 → parseFieldDescriptor (TX3 k).2.2.1 = some (tyX3 k) := by decide +kernel
abbrev cX3_init : ByteArray := prog_5_method_1_code
def yX3_init : MethodName := ⟨RX3, "<init>", "([IIII)V"⟩
abbrev cX3_size : ByteArray := prog_5_method_2_code
def yX3_size : MethodName := ⟨RX3, "size", "()I"⟩
abbrev cX3_has : ByteArray := prog_5_method_3_code
def yX3_has : MethodName := ⟨RX3, "has", "(I)Z"⟩
abbrev cX3_isFull : ByteArray := prog_5_method_4_code
def yX3_isFull : MethodName := ⟨RX3, "isFull", "()Z"⟩
abbrev cX3_addRow : ByteArray := prog_5_method_5_code
def yX3_addRow : MethodName := ⟨RX3, "addRow", "()I"⟩
abbrev cX3_at : ByteArray := prog_5_method_6_code
def yX3_at : MethodName := ⟨RX3, "at", "(II)I"⟩
abbrev cX3_put : ByteArray := prog_5_method_7_code
def yX3_put : MethodName := ⟨RX3, "put", "(III)V"⟩
abbrev cX3_add : ByteArray := prog_5_method_8_code
def yX3_add : MethodName := ⟨RX3, "add", "(III)V"⟩
abbrev cX3_sumOf : ByteArray := prog_5_method_9_code
def yX3_sumOf : MethodName := ⟨RX3, "sumOf", "(I)I"⟩
def RX4 : String := "GiftPurposes"
def TX4 : u_T := fun k => match k with
  | 0 => ("GiftPurposes", "books", "LGiftPurposes$Books;", true)
  | 1 => ("GiftPurposes", "trial", "LGiftPurposes$Books;", true)
  | 2 => ("GiftPurposes", "history", "LGiftPurposes$History;", true)
  | _ => ("GiftPurposes", "script", "LGiftPurposes$Script;", true)
def tyX4 : Nat → FieldType := fun k => match k with
  | 0 => .object "GiftPurposes$Books"
  | 1 => .object "GiftPurposes$Books"
  | 2 => .object "GiftPurposes$History"
  | _ => .object "GiftPurposes$Script"
abbrev wsX40 : List Cond := u_ws RX4 TX4 4
theorem nmX4 : ∀ a, a < 4 → ∀ b, b < 4 → a ≠ b → (TX4 a).2.1 ≠ (TX4 b).2.1 := by decide +kernel
theorem tyX4_ok : ∀ k, k < 4 → parseFieldDescriptor (TX4 k).2.2.1 = some (tyX4 k) := by decide +kernel
abbrev cX4_init : ByteArray := prog_1_method_1_code
def yX4_init : MethodName := ⟨RX4, "<init>", "()V"⟩
abbrev cX4_purpose : ByteArray := prog_1_method_2_code
def yX4_purpose : MethodName := ⟨RX4, "purpose", "()I"⟩
abbrev cX4_donor : ByteArray := prog_1_method_3_code
def yX4_donor : MethodName := ⟨RX4, "donor", "()I"⟩
abbrev cX4_declare : ByteArray := prog_1_method_4_code
def yX4_declare : MethodName := ⟨RX4, "declare", "(II)I"⟩
abbrev cX4_give : ByteArray := prog_1_method_5_code
def yX4_give : MethodName := ⟨RX4, "give", "(III)I"⟩
abbrev cX4_pledge : ByteArray := prog_1_method_6_code
def yX4_pledge : MethodName := ⟨RX4, "pledge", "(IIII)I"⟩
abbrev cX4_miss : ByteArray := prog_1_method_7_code
def yX4_miss : MethodName := ⟨RX4, "miss", "(I)I"⟩
abbrev cX4_stop : ByteArray := prog_1_method_8_code
def yX4_stop : MethodName := ⟨RX4, "stop", "(I)I"⟩
abbrev cX4_claim : ByteArray := prog_1_method_9_code
def yX4_claim : MethodName := ⟨RX4, "claim", "()I"⟩
abbrev cX4_spend : ByteArray := prog_1_method_10_code
def yX4_spend : MethodName := ⟨RX4, "spend", "(II)I"⟩
abbrev cX4_agree : ByteArray := prog_1_method_11_code
def yX4_agree : MethodName := ⟨RX4, "agree", "(III)I"⟩
abbrev cX4_merge : ByteArray := prog_1_method_12_code
def yX4_merge : MethodName := ⟨RX4, "merge", "(II)I"⟩
abbrev cX4_refund : ByteArray := prog_1_method_13_code
def yX4_refund : MethodName := ⟨RX4, "refund", "(I)I"⟩
abbrev cX4_pass : ByteArray := prog_1_method_14_code
def yX4_pass : MethodName := ⟨RX4, "pass", "(I)I"⟩
abbrev cX4_set : ByteArray := prog_1_method_15_code
def yX4_set : MethodName := ⟨RX4, "set", "(II)I"⟩
abbrev cX4_purposeOf : ByteArray := prog_1_method_16_code
def yX4_purposeOf : MethodName := ⟨RX4, "purposeOf", "(II)I"⟩
abbrev cX4_donorOf : ByteArray := prog_1_method_17_code
def yX4_donorOf : MethodName := ⟨RX4, "donorOf", "(II)I"⟩
abbrev cX4_giftOf : ByteArray := prog_1_method_18_code
def yX4_giftOf : MethodName := ⟨RX4, "giftOf", "(II)I"⟩
abbrev cX4_pledgeOf : ByteArray := prog_1_method_19_code
def yX4_pledgeOf : MethodName := ⟨RX4, "pledgeOf", "(II)I"⟩
abbrev cX4_count : ByteArray := prog_1_method_20_code
def yX4_count : MethodName := ⟨RX4, "count", "(I)I"⟩
abbrev cX4_wouldClaim : ByteArray := prog_1_method_21_code
def yX4_wouldClaim : MethodName := ⟨RX4, "wouldClaim", "(I)I"⟩
abbrev cX4_consents : ByteArray := prog_1_method_22_code
def yX4_consents : MethodName := ⟨RX4, "consents", "(II)I"⟩
abbrev cX4_later : ByteArray := prog_1_method_23_code
def yX4_later : MethodName := ⟨RX4, "later", "(II)I"⟩
abbrev cX4_undo : ByteArray := prog_1_method_24_code
def yX4_undo : MethodName := ⟨RX4, "undo", "()I"⟩
abbrev cX4_type : ByteArray := prog_1_method_25_code
def yX4_type : MethodName := ⟨RX4, "type", "(I)I"⟩
abbrev cX4_clearText : ByteArray := prog_1_method_26_code
def yX4_clearText : MethodName := ⟨RX4, "clearText", "()I"⟩
abbrev cX4_fault : ByteArray := prog_1_method_27_code
def yX4_fault : MethodName := ⟨RX4, "fault", "(I)I"⟩
abbrev cX4_play : ByteArray := prog_1_method_28_code
def yX4_play : MethodName := ⟨RX4, "play", "()I"⟩
abbrev cX4_within : ByteArray := prog_1_method_29_code
def yX4_within : MethodName := ⟨RX4, "within", "(III)Z"⟩
def RX5 : String := "GiftPurposesModel"
def TX5 : u_T := fun k => match k with
  | 0 => ("GiftPurposesModel", "s", "[I", true)
  | 1 => ("GiftPurposesModel", "past", "[I", true)
  | 2 => ("GiftPurposesModel", "held", "[I", true)
  | 3 => ("GiftPurposesModel", "tried", "[I", true)
  | 4 => ("GiftPurposesModel", "pasts", "I", false)
  | 5 => ("GiftPurposesModel", "runs", "Z", false)
  | 6 => ("GiftPurposesModel", "text", "[I", true)
  | 7 => ("GiftPurposesModel", "typed", "I", false)
  | 8 => ("GiftPurposesModel", "words", "[J", true)
  | 9 => ("GiftPurposesModel", "numbers", "[I", true)
  | 10 => ("GiftPurposesModel", "claimed", "I", false)
  | 11 => ("GiftPurposesModel", "spot", "I", false)
  | 12 => ("GiftPurposesModel", "cause", "I", false)
  | 13 => ("GiftPurposesModel", "commands", "I", false)
  | _ => ("GiftPurposesModel", "told", "[I", true)
def tyX5 : Nat → FieldType := fun k => match k with
  | 0 => .array .int
  | 1 => .array .int
  | 2 => .array .int
  | 3 => .array .int
  | 4 => .int
  | 5 => .boolean
  | 6 => .array .int
  | 7 => .int
  | 8 => .array .long
  | 9 => .array .int
  | 10 => .int
  | 11 => .int
  | 12 => .int
  | 13 => .int
  | _ => .array .int
abbrev wsX50 : List Cond := u_ws RX5 TX5 15
theorem nmX5 : ∀ a, a < 15 → ∀ b, b < 15 → a ≠ b → (TX5 a).2.1 ≠ (TX5 b).2.1 := by decide +kernel
theorem tyX5_ok : ∀ k, k < 15 → parseFieldDescriptor (TX5 k).2.2.1 = some (tyX5 k) := by decide +kernel
abbrev cX5_init : ByteArray := prog_7_method_1_code
def yX5_init : MethodName := ⟨RX5, "<init>", "()V"⟩
abbrev cX5_in : ByteArray := prog_7_method_3_code
def yX5_in : MethodName := ⟨RX5, "in", "(III)Z"⟩
abbrev cX5_copies : ByteArray := prog_7_method_4_code
def yX5_copies : MethodName := ⟨RX5, "copies", "([I[I)V"⟩
abbrev cX5_changes : ByteArray := prog_7_method_5_code
def yX5_changes : MethodName := ⟨RX5, "changes", "()V"⟩
abbrev cX5_ofPurpose : ByteArray := prog_7_method_6_code
def yX5_ofPurpose : MethodName := ⟨RX5, "ofPurpose", "(II)I"⟩
abbrev cX5_putsPurpose : ByteArray := prog_7_method_7_code
def yX5_putsPurpose : MethodName := ⟨RX5, "putsPurpose", "(III)V"⟩
abbrev cX5_adds : ByteArray := prog_7_method_8_code
def yX5_adds : MethodName := ⟨RX5, "adds", "(III)V"⟩
abbrev cX5_ofDonor : ByteArray := prog_7_method_9_code
def yX5_ofDonor : MethodName := ⟨RX5, "ofDonor", "(II)I"⟩
abbrev cX5_putsDonor : ByteArray := prog_7_method_10_code
def yX5_putsDonor : MethodName := ⟨RX5, "putsDonor", "(III)V"⟩
abbrev cX5_ofGift : ByteArray := prog_7_method_11_code
def yX5_ofGift : MethodName := ⟨RX5, "ofGift", "(II)I"⟩
abbrev cX5_ofPledge : ByteArray := prog_7_method_12_code
def yX5_ofPledge : MethodName := ⟨RX5, "ofPledge", "(II)I"⟩
abbrev cX5_putsPledge : ByteArray := prog_7_method_13_code
def yX5_putsPledge : MethodName := ⟨RX5, "putsPledge", "(III)V"⟩
abbrev cX5_isPurpose : ByteArray := prog_7_method_14_code
def yX5_isPurpose : MethodName := ⟨RX5, "isPurpose", "(I)Z"⟩
abbrev cX5_isClosed : ByteArray := prog_7_method_15_code
def yX5_isClosed : MethodName := ⟨RX5, "isClosed", "(I)Z"⟩
abbrev cX5_isDonor : ByteArray := prog_7_method_16_code
def yX5_isDonor : MethodName := ⟨RX5, "isDonor", "(I)Z"⟩
abbrev cX5_isPledge : ByteArray := prog_7_method_17_code
def yX5_isPledge : MethodName := ⟨RX5, "isPledge", "(I)Z"⟩
abbrev cX5_home : ByteArray := prog_7_method_18_code
def yX5_home : MethodName := ⟨RX5, "home", "(I)I"⟩
abbrev cX5_purpose : ByteArray := prog_7_method_19_code
def yX5_purpose : MethodName := ⟨RX5, "purpose", "()I"⟩
abbrev cX5_donor : ByteArray := prog_7_method_20_code
def yX5_donor : MethodName := ⟨RX5, "donor", "()I"⟩
abbrev cX5_declare : ByteArray := prog_7_method_21_code
def yX5_declare : MethodName := ⟨RX5, "declare", "(II)I"⟩
abbrev cX5_gives : ByteArray := prog_7_method_22_code
def yX5_gives : MethodName := ⟨RX5, "gives", "(IIII)I"⟩
abbrev cX5_give : ByteArray := prog_7_method_23_code
def yX5_give : MethodName := ⟨RX5, "give", "(III)I"⟩
abbrev cX5_pledge : ByteArray := prog_7_method_24_code
def yX5_pledge : MethodName := ⟨RX5, "pledge", "(IIII)I"⟩
abbrev cX5_miss : ByteArray := prog_7_method_25_code
def yX5_miss : MethodName := ⟨RX5, "miss", "(I)I"⟩
abbrev cX5_ends : ByteArray := prog_7_method_26_code
def yX5_ends : MethodName := ⟨RX5, "ends", "(II)V"⟩
abbrev cX5_stop : ByteArray := prog_7_method_27_code
def yX5_stop : MethodName := ⟨RX5, "stop", "(I)I"⟩
abbrev cX5_tax : ByteArray := prog_7_method_28_code
def yX5_tax : MethodName := ⟨RX5, "tax", "(I)I"⟩
abbrev cX5_canClaim : ByteArray := prog_7_method_29_code
def yX5_canClaim : MethodName := ⟨RX5, "canClaim", "(I)Z"⟩
abbrev cX5_claims : ByteArray := prog_7_method_30_code
def yX5_claims : MethodName := ⟨RX5, "claims", "(I)I"⟩
abbrev cX5_wouldClaim : ByteArray := prog_7_method_31_code
def yX5_wouldClaim : MethodName := ⟨RX5, "wouldClaim", "(I)I"⟩
abbrev cX5_claim : ByteArray := prog_7_method_32_code
def yX5_claim : MethodName := ⟨RX5, "claim", "()I"⟩
abbrev cX5_spend : ByteArray := prog_7_method_33_code
def yX5_spend : MethodName := ⟨RX5, "spend", "(II)I"⟩
abbrev cX5_weight : ByteArray := prog_7_method_34_code
def yX5_weight : MethodName := ⟨RX5, "weight", "(II)I"⟩
abbrev cX5_weights : ByteArray := prog_7_method_35_code
def yX5_weights : MethodName := ⟨RX5, "weights", "(II)I"⟩
abbrev cX5_areTwo : ByteArray := prog_7_method_36_code
def yX5_areTwo : MethodName := ⟨RX5, "areTwo", "(II)Z"⟩
abbrev cX5_agree : ByteArray := prog_7_method_37_code
def yX5_agree : MethodName := ⟨RX5, "agree", "(III)I"⟩
abbrev cX5_merge : ByteArray := prog_7_method_38_code
def yX5_merge : MethodName := ⟨RX5, "merge", "(II)I"⟩
abbrev cX5_refund : ByteArray := prog_7_method_39_code
def yX5_refund : MethodName := ⟨RX5, "refund", "(I)I"⟩
abbrev cX5_month : ByteArray := prog_7_method_40_code
def yX5_month : MethodName := ⟨RX5, "month", "(I)I"⟩
abbrev cX5_goes : ByteArray := prog_7_method_41_code
def yX5_goes : MethodName := ⟨RX5, "goes", "(I)I"⟩
abbrev cX5_pass : ByteArray := prog_7_method_42_code
def yX5_pass : MethodName := ⟨RX5, "pass", "(I)I"⟩
abbrev cX5_set : ByteArray := prog_7_method_43_code
def yX5_set : MethodName := ⟨RX5, "set", "(II)I"⟩
abbrev cX5_purposeOf : ByteArray := prog_7_method_44_code
def yX5_purposeOf : MethodName := ⟨RX5, "purposeOf", "(II)I"⟩
abbrev cX5_given : ByteArray := prog_7_method_45_code
def yX5_given : MethodName := ⟨RX5, "given", "(II)I"⟩
abbrev cX5_running : ByteArray := prog_7_method_46_code
def yX5_running : MethodName := ⟨RX5, "running", "(I)I"⟩
abbrev cX5_donorOf : ByteArray := prog_7_method_47_code
def yX5_donorOf : MethodName := ⟨RX5, "donorOf", "(II)I"⟩
abbrev cX5_giftOf : ByteArray := prog_7_method_48_code
def yX5_giftOf : MethodName := ⟨RX5, "giftOf", "(II)I"⟩
abbrev cX5_pledgeOf : ByteArray := prog_7_method_49_code
def yX5_pledgeOf : MethodName := ⟨RX5, "pledgeOf", "(II)I"⟩
abbrev cX5_all : ByteArray := prog_7_method_50_code
def yX5_all : MethodName := ⟨RX5, "all", "(I)I"⟩
abbrev cX5_count : ByteArray := prog_7_method_51_code
def yX5_count : MethodName := ⟨RX5, "count", "(I)I"⟩
abbrev cX5_consents : ByteArray := prog_7_method_52_code
def yX5_consents : MethodName := ⟨RX5, "consents", "(II)I"⟩
abbrev cX5_later : ByteArray := prog_7_method_53_code
def yX5_later : MethodName := ⟨RX5, "later", "(II)I"⟩
abbrev cX5_undo : ByteArray := prog_7_method_54_code
def yX5_undo : MethodName := ⟨RX5, "undo", "()I"⟩
abbrev cX5_type : ByteArray := prog_7_method_55_code
def yX5_type : MethodName := ⟨RX5, "type", "(I)I"⟩
abbrev cX5_clearText : ByteArray := prog_7_method_56_code
def yX5_clearText : MethodName := ⟨RX5, "clearText", "()I"⟩
abbrev cX5_isAt : ByteArray := prog_7_method_57_code
def yX5_isAt : MethodName := ⟨RX5, "isAt", "(II)Z"⟩
abbrev cX5_passes : ByteArray := prog_7_method_58_code
def yX5_passes : MethodName := ⟨RX5, "passes", "(I)Z"⟩
abbrev cX5_word : ByteArray := prog_7_method_59_code
def yX5_word : MethodName := ⟨RX5, "word", "()I"⟩
abbrev cX5_number : ByteArray := prog_7_method_60_code
def yX5_number : MethodName := ⟨RX5, "number", "(I)Z"⟩
abbrev cX5_reads : ByteArray := prog_7_method_61_code
def yX5_reads : MethodName := ⟨RX5, "reads", "()I"⟩
abbrev cX5_calls : ByteArray := prog_7_method_62_code
def yX5_calls : MethodName := ⟨RX5, "calls", "(I)I"⟩
abbrev cX5_plays : ByteArray := prog_7_method_63_code
def yX5_plays : MethodName := ⟨RX5, "plays", "()I"⟩
abbrev cX5_fault : ByteArray := prog_7_method_64_code
def yX5_fault : MethodName := ⟨RX5, "fault", "(I)I"⟩
abbrev cX5_play : ByteArray := prog_7_method_65_code
def yX5_play : MethodName := ⟨RX5, "play", "()I"⟩
def RJ9 : String := "java/lang/Math"
def TJ9 : u_T := fun k => match k with
  | _ => ("", "", "", false)
def tyJ9 : Nat → FieldType := fun k => match k with
  | _ => .int
abbrev wsJ90 : List Cond := u_ws RJ9 TJ9 0
theorem nmJ9 : ∀ a, a < 0 → ∀ b, b < 0 → a ≠ b → (TJ9 a).2.1 ≠ (TJ9 b).2.1 := by decide +kernel
theorem tyJ9_ok : ∀ k, k < 0 → parseFieldDescriptor (TJ9 k).2.2.1 = some (tyJ9 k) := by decide +kernel
abbrev cJ9_max_7cf53 : ByteArray := prog_8_method_65_code
def yJ9_max_7cf53 : MethodName := ⟨RJ9, "max", "(II)I"⟩
abbrev cJ9_min_7cf53 : ByteArray := prog_8_method_69_code
def yJ9_min_7cf53 : MethodName := ⟨RJ9, "min", "(II)I"⟩
def RJ0 : String := "java/lang/String"
def TJ0 : u_T := fun k => match k with
  | _ => ("", "", "", false)
def tyJ0 : Nat → FieldType := fun k => match k with
  | _ => .int
abbrev wsJ00 : List Cond := u_ws RJ0 TJ0 0
theorem nmJ0 : ∀ a, a < 0 → ∀ b, b < 0 → a ≠ b → (TJ0 a).2.1 ≠ (TJ0 b).2.1 := by decide +kernel
theorem tyJ0_ok : ∀ k, k < 0 → parseFieldDescriptor (TJ0 k).2.2.1 = some (tyJ0 k) := by decide +kernel
abbrev cJ0_length_8abf5 : ByteArray := prog_9_method_54_code
def yJ0_length_8abf5 : MethodName := ⟨RJ0, "length", "()I"⟩
abbrev cJ0_charAt_5068e : ByteArray := prog_9_method_56_code
def yJ0_charAt_5068e : MethodName := ⟨RJ0, "charAt", "(I)C"⟩
abbrev cJ0_coder_7d493 : ByteArray := prog_9_method_152_code
def yJ0_coder_7d493 : MethodName := ⟨RJ0, "coder", "()B"⟩
abbrev cJ0_isLatin1_aae02 : ByteArray := prog_9_method_154_code
def yJ0_isLatin1_aae02 : MethodName := ⟨RJ0, "isLatin1", "()Z"⟩
abbrev cJ0_checkIndex_df160 : ByteArray := prog_9_method_155_code
def yJ0_checkIndex_df160 : MethodName := ⟨RJ0, "checkIndex", "(II)V"⟩
def RJ1 : String := "java/lang/StringLatin1"
def TJ1 : u_T := fun k => match k with
  | _ => ("", "", "", false)
def tyJ1 : Nat → FieldType := fun k => match k with
  | _ => .int
abbrev wsJ10 : List Cond := u_ws RJ1 TJ1 0
theorem nmJ1 : ∀ a, a < 0 → ∀ b, b < 0 → a ≠ b → (TJ1 a).2.1 ≠ (TJ1 b).2.1 := by decide +kernel
theorem tyJ1_ok : ∀ k, k < 0 → parseFieldDescriptor (TJ1 k).2.2.1 = some (tyJ1 k) := by decide +kernel
abbrev cJ1_charAt_3b067 : ByteArray := prog_10_method_2_code
def yJ1_charAt_3b067 : MethodName := ⟨RJ1, "charAt", "([BI)C"⟩
def RJ2 : String := "java/lang/StringUTF16"
def TJ2 : u_T := fun k => match k with
  | _ => ("", "", "", false)
def tyJ2 : Nat → FieldType := fun k => match k with
  | _ => .int
abbrev wsJ20 : List Cond := u_ws RJ2 TJ2 0
theorem nmJ2 : ∀ a, a < 0 → ∀ b, b < 0 → a ≠ b → (TJ2 a).2.1 ≠ (TJ2 b).2.1 := by decide +kernel
theorem tyJ2_ok : ∀ k, k < 0 → parseFieldDescriptor (TJ2 k).2.2.1 = some (tyJ2 k) := by decide +kernel
abbrev cJ2_getChar_3b067 : ByteArray := prog_11_method_5_code
def yJ2_getChar_3b067 : MethodName := ⟨RJ2, "getChar", "([BI)C"⟩
abbrev cJ2_length_9d52b : ByteArray := prog_11_method_6_code
def yJ2_length_9d52b : MethodName := ⟨RJ2, "length", "([B)I"⟩
abbrev cJ2_charAt_3b067 : ByteArray := prog_11_method_83_code
def yJ2_charAt_3b067 : MethodName := ⟨RJ2, "charAt", "([BI)C"⟩
abbrev cJ2_checkIndex_2214a : ByteArray := prog_11_method_91_code
def yJ2_checkIndex_2214a : MethodName := ⟨RJ2, "checkIndex", "(I[B)V"⟩
def RJ10 : String := "java/lang/System"
def TJ10 : u_T := fun k => match k with
  | _ => ("", "", "", false)
def tyJ10 : Nat → FieldType := fun k => match k with
  | _ => .int
abbrev wsJ100 : List Cond := u_ws RJ10 TJ10 0
theorem nmJ10 : ∀ a, a < 0 → ∀ b, b < 0 → a ≠ b → (TJ10 a).2.1 ≠ (TJ10 b).2.1 := by decide +kernel
theorem tyJ10_ok : ∀ k, k < 0 → parseFieldDescriptor (TJ10 k).2.2.1 = some (tyJ10 k) := by decide +kernel
def RJ3 : String := "jdk/internal/util/Preconditions"
def TJ3 : u_T := fun k => match k with
  | _ => ("", "", "", false)
def tyJ3 : Nat → FieldType := fun k => match k with
  | _ => .int
abbrev wsJ30 : List Cond := u_ws RJ3 TJ3 0
theorem nmJ3 : ∀ a, a < 0 → ∀ b, b < 0 → a ≠ b → (TJ3 a).2.1 ≠ (TJ3 b).2.1 := by decide +kernel
theorem tyJ3_ok : ∀ k, k < 0 → parseFieldDescriptor (TJ3 k).2.2.1 = some (tyJ3 k) := by decide +kernel
abbrev cJ3_checkIndex_8e157 : ByteArray := prog_13_method_11_code
def yJ3_checkIndex_8e157 : MethodName := ⟨RJ3, "checkIndex", "(IILjava/util/function/BiFunction;)I"⟩
def RL : String := "GiftPurposesLaw"
abbrev cL_law : ByteArray := code
def yL_law : MethodName := ⟨RL, "law", "([I)Z"⟩
abbrev vwCl : List vw_C := [(RX0, TX0, 5), (RX1, TX1, 3), (RX2, TX2, 7), (RX3, TX3, 4), (RX4, TX4, 4), (RX5, TX5, 15)]
